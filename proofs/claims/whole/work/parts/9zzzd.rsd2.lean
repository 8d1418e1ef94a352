/-! ===== the reference's right side, WHERE, PTR ===== -/
/-- either wrong there, or well -/
def oR {α : Type} (r : Int ⊕ α) (E : Int → Prop) (Q : α → Prop) : Prop := match r with
  | .inl e => E e
  | .inr q => Q q
abbrev eR (σ τ : MS) (e : Int) : Prop := rfr τ σ ∧ gI τ 80 14 = e ∧ 0 ≤ e
/-- PTR's frame -/
def rqP (τ σ : MS) : Prop := (∀ k s, ¬ (k = 80 ∧ ((8 ≤ s ∧ s ≤ 14) ∨ (34 ≤ s ∧ s ≤ 37))) → gI τ k s = gI σ k s) ∧ (∀ k s, ¬ (k = 80 ∧ s = 12) → gL τ k s = gL σ k s) ∧ τ.2.2 = σ.2.2
section RSD
variable {t : Nat → Int} {n i j k m : Nat} {σ τ ρ υ : MS} {c d e o w x x1 x2 x3 : Int} {v : B64} {q : B64 × Int} {T : TK}
theorem eR_e (f : rfr τ σ) (p : rqE υ τ e) (h : 0 ≤ e) : eR σ υ e := ⟨rfr_t (rfr_W p.1) f, p.2, h⟩
theorem eR_m (g : RG σ t n k) (f : rfr σ ρ) : eR ρ (sI σ 80 14 (tB (tks t n k) : Int)) (tB (tks t n k) : Int) := eR_e f (mis g) (by omega)
theorem iOr_z {x : Int} (h : 0 ≤ x ∧ x < 2147483648) : iOr x 0 = x := by
  unfold iOr b32
  rw [show BitVec.ofInt 32 0 = 0#32 from rfl, BitVec.or_zero, BitVec.toInt_ofInt]
  rw [Int.bmod_def]
  omega
theorem lI_0 : lI 0 = 0 := by decide
theorem st_ok : ∀ j, j < 117 → (strAt j).length < 1000 ∧ ∀ i, i < (strAt j).length → (strAt j).getD i 0 < 128 := by decide +kernel
theorem N362 (h : RG σ t n k) (hj : j < 117) : MM 362 [mR (some 80), mR (some (strK + j))] σ = some (some (mI (b2 (nmP' t (tks t n k) j))), σ) := T362 h hj (st_ok j hj).2 (st_ok j hj).1
theorem T376b (h : 0 ≤ gI σ 80 14) : MM 376 [mR (some 80), mI w] σ = some (none, σ) := by
  rw [M376, e376_0, T358b h]
  simp only [Option.bind_some, Option.toList_some, Option.toList_none, List.cons_append, List.nil_append]
  rw [e376_4, if_pos y00, e376_61, T358b h]
  simp only [Option.bind_some, Option.toList_some, Option.toList_none, List.cons_append, List.nil_append]
  rw [e376_65, if_pos y00]
/-- the right side -/
theorem T376 (h : RG σ t n k) (hw : w = 0 ∨ w = 1) (h26 : 0 ≤ gI σ 80 26 ∧ gI σ 80 26 < 256) (h28 : gI σ 80 28 = 0) (h30 : gI σ 80 30 = 0) : okc (MM 376 [mR (some 80), mI w] σ) none (fun τ => oR (pSid t (tks t n) w k) (eR σ τ) (fun q => rqS τ σ ∧ RG τ t n q.2 ∧ gI τ 80 26 = iOr (gI σ 80 26) q.1.1 ∧ gI τ 80 28 = q.1.2.1 ∧ gI τ 80 30 = lI q.1.2.2)) := by
  rw [M376, e376_0, T358g h.2.2]
  simp only [Option.bind_some, Option.toList_some, Option.toList_none, List.cons_append, List.nil_append]
  rw [e376_4, if_neg n10, RG_9 h]
  unfold pSid
  by_cases c2 : tK (tks t n k) = 2
  · rw [if_neg (show ¬ ¬ tK (tks t n k) = 2 from fun z => z c2), if_pos c2]
    unfold pRgt
    by_cases cr : rgR t (tks t n k) < 0 ∨ ¬ (if rgR t (tks t n k) < 16 then (0 : Int) else 1) = w
    · rw [if_pos cr, T375e (x := 0) h (fun z => cr.elim (fun a => by have := z.1; omega) (fun a => z.2.elim (fun b => b rfl) a))]
      simp only [Option.bind_some, Option.toList_some, Option.toList_none, List.cons_append, List.nil_append]
      have hb := rqE_0 (mis h)
      rw [e376_21, T358b hb]
      simp only [Option.bind_some, Option.toList_some, Option.toList_none, List.cons_append, List.nil_append]
      rw [e376_26, if_pos y00, e376_40]
      have hb2 : 0 ≤ gI (sI (sI (sI σ 80 14 (tB (tks t n k) : Int)) 80 28 0) 80 26 (iOr (gI (sI (sI σ 80 14 (tB (tks t n k) : Int)) 80 28 0) 80 26) 8)) 80 14 := by
        rw [gI_sI, if_neg (by decide), gI_sI, if_neg (by decide)]
        exact hb
      rw [T373b hb2]
      simp only [Option.bind_some, Option.toList_some, Option.toList_none, List.cons_append, List.nil_append]
      rw [e376_58]
      refine okc_s ⟨rfr_t (rfr_I ⟨by omega, by omega⟩) (rfr_t (rfr_I ⟨by omega, by omega⟩) rfr_14), ?_, by omega⟩
      rw [gI_sI, if_neg (by decide), gI_sI, if_neg (by decide), gI_sI, if_pos ⟨rfl, rfl⟩]
    · have cr' : 0 ≤ rgR t (tks t n k) ∧ (if rgR t (tks t n k) < 16 then (0 : Int) else 1) = w := ⟨by omega, Classical.byContradiction fun z => cr (Or.inr z)⟩
      rw [if_neg cr, T375g (x := 0) h hw ⟨cr'.1, Or.inr cr'.2⟩]
      simp only [Option.bind_some, Option.toList_some, Option.toList_none, List.cons_append, List.nil_append]
      rw [e376_21, T358g h.2.2]
      simp only [Option.bind_some, Option.toList_some, Option.toList_none, List.cons_append, List.nil_append]
      rw [e376_26, if_neg n10, T364 h]
      simp only [Option.bind_some, Option.toList_some, Option.toList_none, List.cons_append, List.nil_append]
      rw [e376_33, e376_40]
      have g2 : RG (sI (sI σ 80 28 (iAnd (rgR t (tks t n k)) 15)) 80 26 (iOr (gI (sI σ 80 28 (iAnd (rgR t (tks t n k)) 15)) 80 26) 8)) t n k := RG_I (RG_I h (by omega)) (by omega)
      refine okc_b (T373g g2 (by rw [c2]; decide)) fun τ p => ?_
      show okc (RR (lkB tb376) (B376_58, [some (mR (some 80)), some (mI w)], [], τ)) none _
      rw [e376_58]
      refine okc_s ⟨rqS_t (rqS_W p.1) (rqS_t (rqS_I (Or.inl rfl)) (rqS_I (Or.inr (Or.inl rfl)))), p.2, ?_, ?_, ?_⟩
      · rw [p.1.1 _ _ (by omega), gI_sI, if_pos ⟨rfl, rfl⟩, gI_sI, if_neg (by decide)]
      · rw [p.1.1 _ _ (by omega), gI_sI, if_neg (by decide), gI_sI, if_pos ⟨rfl, rfl⟩]
      · rw [p.1.1 _ _ (by omega), gI_sI, if_neg (by decide), gI_sI, if_neg (by decide), h30]
        exact lI_0.symm
  · rw [if_pos c2, if_neg c2, e376_61, T358g h.2.2]
    simp only [Option.bind_some, Option.toList_some, Option.toList_none, List.cons_append, List.nil_append]
    rw [e376_65, if_neg n10]
    have tt := T374 h
    cases pc : pCst (tks t n) k with
    | inl e =>
      obtain ⟨v, hv⟩ := tt.1 e pc
      refine okc_b hv fun τ p => ?_
      show okc (RR (lkB tb376) (B376_73, [some (mR (some 80)), some (mI w)], [mI v, mR (some 80)], τ)) none _
      rw [e376_73]
      refine okc_s ⟨rfr_t (rfr_I ⟨by omega, by omega⟩) (rfr_W p.1.1), ?_, p.2⟩
      rw [gI_sI, if_neg (by decide)]
      exact p.1.2
    | inr q =>
      refine okc_b (tt.2 q pc) fun τ p => ?_
      show okc (RR (lkB tb376) (B376_73, [some (mR (some 80)), some (mI w)], [mI (lI q.1), mR (some 80)], τ)) none _
      rw [e376_73]
      refine okc_s ⟨rqS_t (rqS_I (Or.inr (Or.inr rfl))) (rqS_W p.1), RG_I p.2 (by omega), ?_, ?_, ?_⟩
      · rw [gI_sI, if_neg (by decide), p.1.1 _ _ (by omega), iOr_z ⟨h26.1, by omega⟩]
      · rw [gI_sI, if_neg (by decide), p.1.1 _ _ (by omega), h28]
      · rw [gI_sI, if_pos ⟨rfl, rfl⟩]
/-- WHERE, when something is wrong already -/
theorem W244b (h : 0 ≤ gI τ 80 14) : okc (RR (lkB tb387) (B387_244, [some (mR (some 80)), some (mI x1), some (mI x2), some (mL v), none, none], [mL q.1], τ)) none (fun υ => rfr υ τ ∧ gI υ 80 14 = gI τ 80 14) := by
  have s275 : ∀ (y5 y : Int) (ρ : MS), 0 ≤ gI ρ 80 14 → rfr ρ τ → gI ρ 80 14 = gI τ 80 14 → okc (RR (lkB tb387) (B387_275, [some (mR (some 80)), some (mI x1), some (mI x2), some (mL v), none, some (mI y5)], [mI y, mR (some 80)], ρ)) none (fun υ => rfr υ τ ∧ gI υ 80 14 = gI τ 80 14) := fun y5 y ρ hb f g => by
    have hb2 : 0 ≤ gI (sI ρ 80 30 y) 80 14 := by rw [gI_sI, if_neg (by decide)]; exact hb
    rw [e387_275, T373b hb2]
    simp only [Option.bind_some, Option.toList_some, Option.toList_none, List.cons_append, List.nil_append]
    rw [e387_282]
    exact okc_s ⟨rfr_t (rfr_I ⟨by omega, by omega⟩) f, by rw [gI_sI, if_neg (by decide)]; exact g⟩
  have s258 : ∀ (y5 y : Int), okc (RR (lkB tb387) (B387_258, [some (mR (some 80)), some (mI x1), some (mI x2), some (mL v), none, some (mI y5)], [mI y, mR (some 80)], τ)) none (fun υ => rfr υ τ ∧ gI υ 80 14 = gI τ 80 14) := fun y5 y => by
    have f := rfr_I (σ := τ) (s := 29) (x := y) ⟨by omega, by omega⟩
    have g : gI (sI τ 80 29 y) 80 14 = gI τ 80 14 := by rw [gI_sI, if_neg (by decide)]
    rw [e387_258]
    by_cases c1 : x1 = 0
    · rw [if_pos c1]
      exact s275 _ _ _ (by rw [g]; exact h) f g
    · rw [if_neg c1]
      exact s275 _ _ _ (by rw [g]; exact h) f g
  rw [e387_244]
  by_cases c1 : x1 = 0
  · rw [if_pos c1]
    exact s258 _ _
  · rw [if_neg c1]
    exact s258 _ _
theorem W228b (h : 0 ≤ gI τ 80 14) : okc (RR (lkB tb387) (B387_228, [some (mR (some 80)), some (mI x1), some (mI x2), some (mL v), none, none], [], τ)) none (fun υ => rfr υ τ ∧ gI υ 80 14 = gI τ 80 14) := by
  rw [e387_228]
  by_cases c1 : x2 = 0
  · rw [if_pos c1]
    exact W244b (q := (gL τ 80 12, 0)) h
  · rw [if_neg c1]
    exact W244b (q := (-(gL τ 80 12), 0)) h
theorem W170b (h : 0 ≤ gI τ 80 14) : okc (RR (lkB tb387) (B387_170, [some (mR (some 80)), some (mI x1), some (mI x2), none, none, none], [], τ)) none (fun υ => rfr υ τ ∧ gI υ 80 14 = gI τ 80 14) := by
  rw [e387_170, T373b h]
  simp only [Option.bind_some, Option.toList_some, Option.toList_none, List.cons_append, List.nil_append]
  rw [e387_174, T372b h]
  simp only [Option.bind_some, Option.toList_some, Option.toList_none, List.cons_append, List.nil_append]
  rw [e387_178]
  have s : ∀ y : B64, okc (RR (lkB tb387) (B387_191, [some (mR (some 80)), some (mI x1), some (mI x2), none, none, none], [mL y], τ)) none (fun υ => rfr υ τ ∧ gI υ 80 14 = gI τ 80 14) := fun y => by
    rw [e387_191, T358b h]
    simp only [Option.bind_some, Option.toList_some, Option.toList_none, List.cons_append, List.nil_append]
    rw [e387_196, if_pos y00]
    exact W228b h
  by_cases c1 : x1 = 0
  · rw [if_pos c1]
    exact s _
  · rw [if_neg c1]
    exact s _
theorem W120b (h : 0 ≤ gI τ 80 14) : okc (RR (lkB tb387) (B387_120, [some (mR (some 80)), some (mI x1), none, none, none, none], [], τ)) none (fun υ => rfr υ τ ∧ gI υ 80 14 = gI τ 80 14) := by
  rw [e387_120, T358b h]
  simp only [Option.bind_some, Option.toList_some, Option.toList_none, List.cons_append, List.nil_append]
  rw [e387_124, if_pos y00, e387_140, e387_141, T358b h]
  simp only [Option.bind_some, Option.toList_some, Option.toList_none, List.cons_append, List.nil_append]
  rw [e387_146, if_pos y00]
  exact W170b h
theorem W22b (h : 0 ≤ gI τ 80 14) : okc (RR (lkB tb387) (B387_22, [some (mR (some 80)), some (mI x1), none, none, none, none], [], τ)) none (fun υ => rfr υ τ ∧ gI υ 80 14 = gI τ 80 14) := by
  rw [e387_22, T358b h]
  simp only [Option.bind_some, Option.toList_some, Option.toList_none, List.cons_append, List.nil_append]
  rw [e387_26, if_pos y00]
  exact W120b h
theorem T387b (h : 0 ≤ gI τ 80 14) : okc (MM 387 [mR (some 80), mI x1] τ) none (fun υ => rfr υ τ ∧ gI υ 80 14 = gI τ 80 14) := by
  rw [M387, e387_0, T358b h]
  simp only [Option.bind_some, Option.toList_some, Option.toList_none, List.cons_append, List.nil_append]
  rw [e387_4, if_pos y00]
  exact W22b h
/-- from there on wrong at e -/
theorem wr_e {o : Option Rs} (f : rfr τ σ) (g : gI τ 80 14 = e) (h : 0 ≤ e) (p : okc o none (fun υ => rfr υ τ ∧ gI υ 80 14 = gI τ 80 14)) : okc o none (eR σ · e) := okc_m p fun υ z => ⟨rfr_t z.1 f, z.2.trans g, h⟩
theorem g90 (h : m < 204) : (Option.isSome (some 90) = true ∧ ab σ 3 90 (m : Int)) := by rw [g_90]; omega
theorem g91 (h : m < 204) : (Option.isSome (some 91) = true ∧ ab σ 3 91 (m : Int)) := by rw [g_91]; omega
theorem g92 (h : m < 204) : (Option.isSome (some 92) = true ∧ ab σ 3 92 (m : Int)) := by rw [g_92]; omega
theorem g93 (h : m < 204) : (Option.isSome (some 93) = true ∧ ab σ 2 93 (m : Int)) := by rw [g_93]; omega
/-- WHERE -/
theorem T387 {u : Nat} {most : B64} (h : RG σ t n k) (hx : x = 0 ∨ x = 1) (hm : most = if x = 0 then iL 32767 else iL 2147483647) (hu : gI σ 80 25 = (u : Int)) (hu2 : u < 203) (h29 : gI σ 80 29 = 0) (h30 : ¬ x = 0 → gI σ 80 30 = 0) : okc (MM 387 [mR (some 80), mI x] σ) none (fun τ => oR (pWh t (tks t n) most k) (eR σ τ) (fun q => rqH τ σ ∧ RG τ t n q.2 ∧ lnR t n τ σ q.1.1 x ∧ gI τ 80 29 = (if x = 0 then lI q.1.2 else 0) ∧ gI τ 80 30 = (if x = 0 then gI σ 80 30 else lI q.1.2))) := by
  have le := tks_le (t := t) (n := n) k
  have n4 := h.1.2.1
  rw [M387, e387_0, T358g h.2.2]
  simp only [Option.bind_some, Option.toList_some, Option.toList_none, List.cons_append, List.nil_append]
  rw [e387_4, if_neg n10, T364 h]
  simp only [Option.bind_some, Option.toList_some, Option.toList_none, List.cons_append, List.nil_append]
  rw [e387_11]
  unfold pWh
  by_cases c2 : tK (tks t n k) = 2
  · rw [if_pos c2]
    by_cases cr : 0 ≤ rgR t (tks t n k)
    · rw [if_neg (show ¬ rgR t (tks t n k) < 0 by omega), if_pos cr, T359g h.2.2, RG_10 h]
      simp only [Option.bind_some, Option.toList_some, Option.toList_none, List.cons_append, List.nil_append]
      exact wr_e rfr_14 (mis h).2 (by omega) (W22b (rqE_0 (mis h)))
    · rw [if_pos (show rgR t (tks t n k) < 0 by omega), if_neg cr, e387_22, T358g h.2.2]
      simp only [Option.bind_some, Option.toList_some, Option.toList_none, List.cons_append, List.nil_append]
      rw [e387_26, if_neg n10, RG_9 h, if_neg (show ¬ ¬ tK (tks t n k) = 2 from fun z => z c2)]
      have l8 := RG_8 h (by rw [c2]; decide)
      have l10 := RG_10 h
      obtain ⟨ρ, hρ⟩ : ∃ ρ, ρ = sI (sI (sI σ 90 u (gI σ 80 16)) 91 u (tB (tks t n k) : Int)) 92 u ((tE (tks t n k) - tB (tks t n k) : Nat) : Int) := ⟨_, rfl⟩
      have a1 : gI (sI σ 90 u (gI σ 80 16)) 80 25 = (u : Int) := by rw [gI_sI, if_neg (by omega)]; exact hu
      have a2 : gI (sI (sI σ 90 u (gI σ 80 16)) 91 u (tB (tks t n k) : Int)) 80 25 = (u : Int) := by rw [gI_sI, if_neg (by omega)]; exact a1
      have a10 : gI (sI σ 90 u (gI σ 80 16)) 80 10 = (tB (tks t n k) : Int) := by rw [gI_sI, if_neg (by omega)]; exact l10
      have a8 : gI (sI (sI σ 90 u (gI σ 80 16)) 91 u (tB (tks t n k) : Int)) 80 8 = (tE (tks t n k) : Int) := by rw [gI_sI, if_neg (by omega), gI_sI, if_neg (by omega)]; exact l8
      have a10' : gI (sI (sI σ 90 u (gI σ 80 16)) 91 u (tB (tks t n k) : Int)) 80 10 = (tB (tks t n k) : Int) := by rw [gI_sI, if_neg (by omega)]; exact a10
      have b25 : gI ρ 80 25 = (u : Int) := by rw [hρ, gI_sI, if_neg (by omega)]; exact a2
      rw [hu, if_pos (g90 (by omega)), Int.toNat_natCast, a1, if_pos (g91 (by omega)), Int.toNat_natCast, a10, a2, if_pos (g92 (by omega)), Int.toNat_natCast, a8, a10', w32_sub le.1 (by omega), ← hρ, e387_81, b25, if_pos (g93 (by omega)), Int.toNat_natCast]
      have x2' : x % 2 = x := by omega
      have c25 : gI (sI ρ 93 u (x % 2)) 80 25 = (u : Int) := by rw [gI_sI, if_neg (by omega)]; exact b25
      rw [c25, if_neg (show ¬ (203 : Int) ≤ (u : Int) by omega), x2', e387_111, w32_s1 (show u < 100000 by omega)]
      have fr0 : rqH ρ σ := by rw [hρ]; exact rqH_t (rqH_K ⟨by omega, by omega⟩) (rqH_t (rqH_K ⟨by omega, by omega⟩) (rqH_K ⟨by omega, by omega⟩))
      have fr1 : rqH (sI (sI ρ 93 u x) 80 25 ((u + 1 : Nat) : Int)) σ := rqH_t (rqH_I (Or.inl rfl)) (rqH_t (rqH_K ⟨by omega, by omega⟩) fr0)
      have ex : ∀ s, ¬ s = 25 → gI (sI (sI ρ 93 u x) 80 25 ((u + 1 : Nat) : Int)) 80 s = gI σ 80 s := fun s z => by
        rw [gI_sI, if_neg (by omega), gI_sI, if_neg (by omega), hρ, gI_sI, if_neg (by omega), gI_sI, if_neg (by omega), gI_sI, if_neg (by omega)]
      have gq : RG (sI (sI ρ 93 u x) 80 25 ((u + 1 : Nat) : Int)) t n k := RG_q h (fun s z => ex s (by omega)) (by rw [hρ]; rfl) (fun s => fr1.1 81 s (by omega) (by omega))
      refine okc_b (T373g gq (by rw [c2]; decide)) fun τ p => ?_
      show okc (RR (lkB tb387) (B387_119, [some (mR (some 80)), some (mI x), none, none, none, none], [], τ)) none _
      rw [e387_119]
      refine okc_s ⟨rqH_t (rqH_W p.1) fr1, p.2, ⟨?_, ?_, ?_, ?_, ?_, fun k' s q1 q2 q3 => ?_⟩, ?_, ?_⟩
      · rw [p.1.1 _ _ (by omega), gI_sI, if_pos ⟨rfl, rfl⟩, hu]; omega
      · rw [hu, Int.toNat_natCast, p.1.1 _ _ (by omega), gI_sI, if_neg (by omega), gI_sI, if_neg (by omega), hρ, gI_sI, if_neg (by omega), gI_sI, if_neg (by omega), gI_sI, if_pos ⟨rfl, rfl⟩]
      · rw [hu, Int.toNat_natCast, p.1.1 _ _ (by omega), gI_sI, if_neg (by omega), gI_sI, if_neg (by omega), hρ, gI_sI, if_neg (by omega), gI_sI, if_pos ⟨rfl, rfl⟩]
      · rw [hu, Int.toNat_natCast, p.1.1 _ _ (by omega), gI_sI, if_neg (by omega), gI_sI, if_neg (by omega), hρ, gI_sI, if_pos ⟨rfl, rfl⟩]
      · rw [hu, Int.toNat_natCast, p.1.1 _ _ (by omega), gI_sI, if_neg (by omega), gI_sI, if_pos ⟨rfl, rfl⟩]
      · rw [hu, Int.toNat_natCast] at q3
        rw [p.1.1 _ _ (by omega), gI_sI, if_neg (by omega), gI_sI, if_neg (by omega), hρ, gI_sI, if_neg (by omega), gI_sI, if_neg (by omega), gI_sI, if_neg (by omega)]
      · rw [p.1.1 _ _ (by omega), ex 29 (by omega), h29]
        show (0 : Int) = if x = 0 then lI 0 else 0
        split
        · exact lI_0.symm
        · rfl
      · rw [p.1.1 _ _ (by omega), ex 30 (by omega)]
        show gI σ 80 30 = if x = 0 then gI σ 80 30 else lI 0
        by_cases c0 : x = 0
        · rw [if_pos c0]
        · rw [if_neg c0, h30 c0]
          exact lI_0.symm
  · have nr : rgR t (tks t n k) < 0 := by
      have := rgR_r (t := t) (X := tks t n k)
      have : rgR t (tks t n k) = -1 := Classical.byContradiction fun z => c2 (rgR_n z)
      omega
    rw [if_pos nr, if_neg c2, e387_22, T358g h.2.2]
    simp only [Option.bind_some, Option.toList_some, Option.toList_none, List.cons_append, List.nil_append]
    rw [e387_26, if_neg n10, RG_9 h, if_pos c2, e387_120, T358g h.2.2]
    simp only [Option.bind_some, Option.toList_some, Option.toList_none, List.cons_append, List.nil_append]
    rw [e387_124, if_neg n10, T360 h]
    simp only [Option.bind_some, Option.toList_some, Option.toList_none, List.cons_append, List.nil_append]
    have s141 : ∀ m' : Int, m' = mnS (tks t n) k → okc (RR (lkB tb387) (B387_141, [some (mR (some 80)), some (mI x), none, none, none, none], [mI m'], σ)) none (fun τ => oR (if sgn (tks t n) 45 k ∨ sgn (tks t n) 43 k then (bS (pNum (tks t n) (if mnS (tks t n) k = 0 then most else most + 1) (k + 1)) fun k2 => .inr ((none, sgV (mnS (tks t n) k) (tV (tks t n (k + 1)))), k2)) else .inl (tB (tks t n k) : Int)) (eR σ τ) (fun q => rqH τ σ ∧ RG τ t n q.2 ∧ lnR t n τ σ q.1.1 x ∧ gI τ 80 29 = (if x = 0 then lI q.1.2 else 0) ∧ gI τ 80 30 = (if x = 0 then gI σ 80 30 else lI q.1.2))) := fun m' hm' => by
      rw [e387_141, T358g h.2.2]
      simp only [Option.bind_some, Option.toList_some, Option.toList_none, List.cons_append, List.nil_append]
      rw [e387_146, if_neg n10]
      -- behind the sign
      have s170 : (sgn (tks t n) 45 k ∨ sgn (tks t n) 43 k) → okc (RR (lkB tb387) (B387_170, [some (mR (some 80)), some (mI x), some (mI m'), none, none, none], [], σ)) none (fun τ => oR (bS (pNum (tks t n) (if mnS (tks t n) k = 0 then most else most + 1) (k + 1)) fun k2 => .inr ((none, sgV (mnS (tks t n) k) (tV (tks t n (k + 1)))), k2)) (eR σ τ) (fun q => rqH τ σ ∧ RG τ t n q.2 ∧ lnR t n τ σ q.1.1 x ∧ gI τ 80 29 = (if x = 0 then lI q.1.2 else 0) ∧ gI τ 80 30 = (if x = 0 then gI σ 80 30 else lI q.1.2))) := fun cs => by
        have k5 : ¬ tK (tks t n k) = 5 := by rcases cs with z | z <;> rw [z.1] <;> decide
        rw [e387_170]
        refine okc_b (T373g h k5) fun τ p => ?_
        show okc (RR (lkB tb387) (B387_174, [some (mR (some 80)), some (mI x), some (mI m'), none, none, none], [], τ)) none _
        have hb := rqE_0 (mis p.2)
        have bad : pNum (tks t n) (if mnS (tks t n) k = 0 then most else most + 1) (k + 1) = .inl (tB (tks t n (k + 1)) : Int) → ∀ {o : Option Rs}, okc o none (fun υ => rfr υ (sI τ 80 14 (tB (tks t n (k + 1)) : Int)) ∧ gI υ 80 14 = gI (sI τ 80 14 (tB (tks t n (k + 1)) : Int)) 80 14) → okc o none (fun τ => oR (bS (pNum (tks t n) (if mnS (tks t n) k = 0 then most else most + 1) (k + 1)) fun k2 => .inr ((none, sgV (mnS (tks t n) k) (tV (tks t n (k + 1)))), k2)) (eR σ τ) (fun q => rqH τ σ ∧ RG τ t n q.2 ∧ lnR t n τ σ q.1.1 x ∧ gI τ 80 29 = (if x = 0 then lI q.1.2 else 0) ∧ gI τ 80 30 = (if x = 0 then gI σ 80 30 else lI q.1.2))) := fun hp o ho => by
          rw [hp]
          exact wr_e (rfr_t rfr_14 (rfr_W p.1)) (mis p.2).2 (by omega) ho
        by_cases c3 : tK (tks t n (k + 1)) = 3 ∧ tkS (tks t n (k + 1)) = 0
        · rw [e387_174, T372g p.2 c3]
          simp only [Option.bind_some, Option.toList_some, Option.toList_none, List.cons_append, List.nil_append]
          have s191 : okc (RR (lkB tb387) (B387_191, [some (mR (some 80)), some (mI x), some (mI m'), none, none, none], [mL most], τ)) none (fun τ => oR (bS (pNum (tks t n) (if mnS (tks t n) k = 0 then most else most + 1) (k + 1)) fun k2 => .inr ((none, sgV (mnS (tks t n) k) (tV (tks t n (k + 1)))), k2)) (eR σ τ) (fun q => rqH τ σ ∧ RG τ t n q.2 ∧ lnR t n τ σ q.1.1 x ∧ gI τ 80 29 = (if x = 0 then lI q.1.2 else 0) ∧ gI τ 80 30 = (if x = 0 then gI σ 80 30 else lI q.1.2))) := by
            rw [e387_191, T358g p.2.2.2]
            simp only [Option.bind_some, Option.toList_some, Option.toList_none, List.cons_append, List.nil_append]
            rw [e387_196, if_neg n10]
            have s210 : ∀ y : B64, y = (if mnS (tks t n) k = 0 then most else most + 1) → okc (RR (lkB tb387) (B387_210, [some (mR (some 80)), some (mI x), some (mI m'), some (mL most), none, none], [mL y], τ)) none (fun τ => oR (bS (pNum (tks t n) (if mnS (tks t n) k = 0 then most else most + 1) (k + 1)) fun k2 => .inr ((none, sgV (mnS (tks t n) k) (tV (tks t n (k + 1)))), k2)) (eR σ τ) (fun q => rqH τ σ ∧ RG τ t n q.2 ∧ lnR t n τ σ q.1.1 x ∧ gI τ 80 29 = (if x = 0 then lI q.1.2 else 0) ∧ gI τ 80 30 = (if x = 0 then gI σ 80 30 else lI q.1.2))) := fun y hy => by
              rw [e387_210, T389, RG_12 p.2 c3.1]
              simp only [Option.bind_some, Option.toList_some, Option.toList_none, List.cons_append, List.nil_append]
              rw [e387_217]
              by_cases cl : y < tV (tks t n (k + 1))
              · have hp : pNum (tks t n) (if mnS (tks t n) k = 0 then most else most + 1) (k + 1) = .inl (tB (tks t n (k + 1)) : Int) := by
                  rw [← hy]
                  exact if_neg (fun z => z.2.2 cl)
                rw [b2_yes cl, if_neg n10, T359g p.2.2.2, RG_10 p.2]
                simp only [Option.bind_some, Option.toList_some, Option.toList_none, List.cons_append, List.nil_append]
                exact bad hp (W228b hb)
              · have hp : pNum (tks t n) (if mnS (tks t n) k = 0 then most else most + 1) (k + 1) = .inr (k + 1 + 1) := by
                  rw [← hy]
                  exact if_pos ⟨c3.1, c3.2, cl⟩
                rw [b2_no cl, if_pos y00, hp, e387_228, RG_12 p.2 c3.1]
                obtain ⟨V, hV⟩ : ∃ V, V = sgV (mnS (tks t n) k) (tV (tks t n (k + 1))) := ⟨_, rfl⟩
                rw [← hV]
                have s275 : ∀ (y29 y30 : Int), y29 = (if x = 0 then lI V else 0) → y30 = (if x = 0 then gI σ 80 30 else lI V) → okc (RR (lkB tb387) (B387_275, [some (mR (some 80)), some (mI x), some (mI m'), some (mL most), none, some (mI (lI V))], [mI y30, mR (some 80)], sI τ 80 29 y29)) none (fun τ => rqH τ σ ∧ RG τ t n (k + 1 + 1) ∧ lnR t n τ σ none x ∧ gI τ 80 29 = (if x = 0 then lI V else 0) ∧ gI τ 80 30 = (if x = 0 then gI σ 80 30 else lI V)) := fun y29 y30 h1 h2 => by
                  rw [e387_275]
                  have fr : rqH (sI (sI τ 80 29 y29) 80 30 y30) τ := rqH_t (rqH_I (Or.inr (Or.inr rfl))) (rqH_I (Or.inr (Or.inl rfl)))
                  refine okc_b (T373g (RG_I (RG_I p.2 (by omega)) (by omega)) (by rw [c3.1]; decide)) fun υ r => ?_
                  show okc (RR (lkB tb387) (B387_282, [some (mR (some 80)), some (mI x), some (mI m'), some (mL most), none, some (mI (lI V))], [], υ)) none _
                  rw [e387_282]
                  refine okc_s ⟨rqH_t (rqH_W r.1) (rqH_t fr (rqH_W p.1)), r.2, ⟨fun k' s q1 q2 => ?_, ?_⟩, ?_, ?_⟩
                  · rw [r.1.1 _ _ (by omega), gI_sI, if_neg (by omega), gI_sI, if_neg (by omega), p.1.1 _ _ (by omega)]
                  · rw [r.1.1 _ _ (by omega), gI_sI, if_neg (by omega), gI_sI, if_neg (by omega), p.1.1 _ _ (by omega)]
                  · rw [r.1.1 _ _ (by omega), gI_sI, if_neg (by decide), gI_sI, if_pos ⟨rfl, rfl⟩, h1]
                  · rw [r.1.1 _ _ (by omega), gI_sI, if_pos ⟨rfl, rfl⟩, h2]
                have s244 : okc (RR (lkB tb387) (B387_244, [some (mR (some 80)), some (mI x), some (mI m'), some (mL most), none, none], [mL V], τ)) none (fun τ => rqH τ σ ∧ RG τ t n (k + 1 + 1) ∧ lnR t n τ σ none x ∧ gI τ 80 29 = (if x = 0 then lI V else 0) ∧ gI τ 80 30 = (if x = 0 then gI σ 80 30 else lI V)) := by
                  rw [e387_244]
                  by_cases c0 : x = 0
                  · rw [if_pos c0, e387_258, if_pos c0]
                    refine s275 _ _ (if_pos c0).symm ?_
                    rw [if_pos c0, gI_sI, if_neg (by decide), p.1.1 _ _ (by omega)]
                  · rw [if_neg c0, e387_258, if_neg c0]
                    exact s275 _ _ (if_neg c0).symm (if_neg c0).symm
                have sv : sgV m' (tV (tks t n (k + 1))) = V := by rw [hV, hm']
                unfold sgV at sv
                by_cases c0 : m' = 0
                · rw [if_pos c0] at sv
                  rw [if_pos c0, sv]
                  exact s244
                · rw [if_neg c0] at sv
                  rw [if_neg c0, sv]
                  exact s244
            by_cases c0 : m' = 0
            · rw [if_pos c0]
              exact s210 _ (by rw [← hm', if_pos c0])
            · rw [if_neg c0]
              exact s210 _ (by rw [← hm', if_neg c0]; rfl)
          rw [e387_178]
          by_cases c0 : x = 0
          · rw [if_pos c0] at hm
            rw [if_pos c0, ← hm]
            exact s191
          · rw [if_neg c0] at hm
            rw [if_neg c0, ← hm]
            exact s191
        · have hp : pNum (tks t n) (if mnS (tks t n) k = 0 then most else most + 1) (k + 1) = .inl (tB (tks t n (k + 1)) : Int) := if_neg (fun z => c3 ⟨z.1, z.2.1⟩)
          rw [e387_174, T372e p.2 c3]
          simp only [Option.bind_some, Option.toList_some, Option.toList_none, List.cons_append, List.nil_append]
          refine bad hp ?_
          rw [e387_178]
          have s : ∀ y : B64, okc (RR (lkB tb387) (B387_191, [some (mR (some 80)), some (mI x), some (mI m'), none, none, none], [mL y], sI τ 80 14 (tB (tks t n (k + 1)) : Int))) none (fun υ => rfr υ (sI τ 80 14 (tB (tks t n (k + 1)) : Int)) ∧ gI υ 80 14 = gI (sI τ 80 14 (tB (tks t n (k + 1)) : Int)) 80 14) := fun y => by
            rw [e387_191, T358b hb]
            simp only [Option.bind_some, Option.toList_some, Option.toList_none, List.cons_append, List.nil_append]
            rw [e387_196, if_pos y00]
            exact W228b hb
          by_cases c0 : x = 0
          · rw [if_pos c0]
            exact s _
          · rw [if_neg c0]
            exact s _
      by_cases cs : sgn (tks t n) 45 k
      · have := (mn_1 cs).1
        rw [if_pos (show ¬ m' = 0 by omega), if_pos (Or.inl cs)]
        exact s170 (Or.inl cs)
      · have := (mn_0 cs).1
        rw [if_neg (show ¬ ¬ m' = 0 by omega), T360 h]
        simp only [Option.bind_some, Option.toList_some, Option.toList_none, List.cons_append, List.nil_append]
        rw [e387_159]
        by_cases cp : sgn (tks t n) 43 k
        · rw [b2_yes cp, if_pos n10, if_pos (Or.inr cp)]
          exact s170 (Or.inr cp)
        · rw [b2_no cp, if_neg (fun z => z y00), if_neg (fun z => z.elim cs cp), T359g h.2.2, RG_10 h]
          simp only [Option.bind_some, Option.toList_some, Option.toList_none, List.cons_append, List.nil_append]
          exact wr_e rfr_14 (mis h).2 (by omega) (W170b (rqE_0 (mis h)))
    rw [e387_133, e387_140]
    by_cases cs : sgn (tks t n) 45 k
    · rw [b2_yes cs, if_neg n10]
      exact s141 1 (mn_1 cs).1.symm
    · rw [b2_no cs, if_pos y00]
      exact s141 0 (mn_0 cs).1.symm
end RSD
