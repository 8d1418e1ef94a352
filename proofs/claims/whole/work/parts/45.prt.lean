/-! ===== the reference's judge: ways that part ===== -/
def HJ (σ : MS) (S : ST) (E : EV) (t : Int) (N : Nat) (K : Nat → KT) (l m : Nat) : Prop := (J0 σ S ∧ okS E t S ∧ canS S ∧ EO σ E) ∧ (gI σ 80 90 = 0 ∧ gI σ 80 85 = t ∧ t < 1000000) ∧ (KR σ N K ∧ KB K N 4000 ∧ N ≤ 250) ∧ (gI σ 80 82 = (l : Int) ∧ l < N) ∧ (gI σ 80 78 = (m : Int) ∧ m ≤ 60) ∧ (0 ≤ gI σ 80 83 ∧ gI σ 80 83 ≤ 4000)
/-- two ways: the one at hand, the one that waits -/
def jpt (σ τ : MS) (S S2 : ST) (n g t' : Int) : Prop := ∃ ρ, jq ρ σ ∧ gI ρ 80 90 = 0 ∧ J0 ρ S2 ∧ kst S2 ∧ jq τ (waS ρ g) ∧ gI τ 80 90 = 0 ∧ J0 τ S ∧ gI τ 80 88 = n ∧ gI τ 80 89 = gI σ 80 89 ∧ gI τ 80 85 = t'
def jk (τ σ : MS) : Prop := (∀ k s, ¬ jT k s → ¬ ((k = 130 ∨ k = 131) ∧ s < 252) → gI τ k s = gI σ k s) ∧ (∀ k s, ¬ ((112 ≤ k ∧ k ≤ 117) ∧ jR s) → gL τ k s = gL σ k s) ∧ τ.2.2 = σ.2.2
/-- the way ends -/
def jpe (σ τ : MS) (N : Nat) (K : Nat → KT) (l : Nat) (t' : Int) : Prop := gI τ 80 90 = 0 ∧ gI τ 80 89 = 1 ∧ gI τ 80 85 = t' ∧ KR τ N (endK K l (gI σ 80 83)) ∧ jk τ σ
def jwo (σ τ : MS) (N : Nat) (K : Nat → KT) (l : Nat) (r : JR) : Prop := (¬ r.1 = 0 → gI τ 80 90 = r.1 ∧ jq τ σ) ∧ (r.1 = 0 → match r.2.1, r.2.2.1 with
  | some (n, S), none => jpo σ τ 0 S n (gI σ 80 89) r.2.2.2
  | some (n, S), some (g, S2) => if gI σ 80 78 = 60 then gI τ 80 90 = 12 ∧ jq τ σ else jpt σ τ S S2 n g r.2.2.2
  | none, _ => jpe σ τ N K l r.2.2.2)
section PRT
variable {σ τ ρ : MS} {S S2 : ST} {E : EV} {t : Int} {N l m : Nat} {K : Nat → KT} {g c : Int}
theorem jwo_f {r : JR} {f : Int} (hf : ¬ f = 0) (hr : r.1 = f) (h : gI τ 80 90 = f ∧ jq τ σ) : jwo σ τ N K l r := ⟨fun _ => by rw [hr]; exact h, fun q => absurd (hr.symm.trans q) hf⟩
theorem jwo_1 {n t' : Int} (h : jpo σ τ 0 S n (gI σ 80 89) t') : jwo σ τ N K l (0, some (n, S), none, t') := ⟨fun q => absurd rfl q, fun _ => h⟩
theorem jwo_2 {n t' : Int} (h : if gI σ 80 78 = 60 then gI τ 80 90 = 12 ∧ jq τ σ else jpt σ τ S S2 n g t') : jwo σ τ N K l (0, some (n, S), some (g, S2), t') := ⟨fun q => absurd rfl q, fun _ => h⟩
theorem jwo_e {t' : Int} (h : jpe σ τ N K l t') : jwo σ τ N K l (0, none, none, t') := ⟨fun q => absurd rfl q, fun _ => h⟩
theorem jq_J {i : Nat} {T : ST} (h : jq τ σ) (hi : ¬ i = 0 ∧ ¬ i = 251 ∧ ¬ i = 313) (hi2 : i < 313) (hF : sF T ≤ 4) (hH : (sH T).length ≤ 64) (j : JSt σ i T) : JSt τ i T := by
  obtain ⟨j1, j2, j3, j4, j5⟩ := j
  refine ⟨(h.1 _ _ (by omega)).trans j1, fun k hk => ?_, fun f f1 f2 => (h.1 _ _ (by omega)).trans (j3 f f1 f2), (h.1 _ _ (by omega)).trans j4, fun m hm => (h.1 _ _ (by omega)).trans (j5 m hm)⟩
  rw [← j2 k hk]
  unfold aV rNv
  rw [h.1 _ _ (by omega), h.1 _ _ (by omega), h.1 _ _ (by omega), h.1 _ _ (by omega), h.1 _ _ (by omega), h.2.1 _ _ (by omega), h.2.1 _ _ (by omega), h.2.1 _ _ (by omega), h.2.1 _ _ (by omega), h.2.1 _ _ (by omega), h.2.1 _ _ (by omega)]
/-- what stays the same at a FUNCTION's or a way's parting -/
theorem HJ_l (h : HJ σ S E t N K l m) (q : jq ρ σ) : gI ρ 80 78 = (m : Int) ∧ gI ρ 80 82 = (l : Int) ∧ gI ρ 80 83 = gI σ 80 83 ∧ (-100000 ≤ gI ρ 130 l ∧ gI ρ 130 l ≤ 100000) ∧ l < 250 := by
  obtain ⟨-, -, ⟨h1, h2, h3⟩, ⟨h4, h5⟩, ⟨h6, h7⟩, h8⟩ := h
  have a := (h1 l h5).2.2.2.1
  have b := (h2 l h5).2.2.2
  refine ⟨(q.1 _ _ (by omega)).trans h6, (q.1 _ _ (by omega)).trans h4, q.1 _ _ (by omega), ?_, by omega⟩
  rw [q.1 _ _ (by omega), a]
  omega
/-- the way that waits is laid, then the other state is there again -/
theorem prt_2 (h : HJ σ S E t N K l m) (hm : m < 60) (q : jq ρ σ) (j : J0 ρ S2) (k2 : kst S2) {T : ST} (jT' : JSt ρ 251 T) (kT : kst T) : MM 514 [mR (some 80), mI g] ρ = some (some (mI 1), waS ρ g) ∧ MM 468 [mR (some 80), mI 251, mI 0] (waS ρ g) = some (none, cpS (waS ρ g) 251 0) ∧ J0 (cpS (waS ρ g) 251 0) T ∧ jq (cpS (waS ρ g) 251 0) (waS ρ g) ∧ ∀ s, ¬ s = 78 → gI (cpS (waS ρ g) 251 0) 80 s = gI ρ 80 s := by
  obtain ⟨a1, a2, a3, a4, a5⟩ := HJ_l h q
  have t := T514 (g := g) a1 hm a2 a5 a4 k2 j
  have h4 := JSt_4 k2.1.2 k2.2.1 j
  have jw : JSt (waS ρ g) 251 T := wa_o a1 a2 h4 (by omega) kT.1.2 kT.2.1 jT'
  have t2 := T468s (x := 251) (y := 0) (by omega) (by omega) (by omega) kT jw
  have h4w := JSt_4 kT.1.2 kT.2.1 jw
  refine ⟨t, t2, cp_J (by omega) (by omega) (by omega) kT.1 kT.2.1 jw, cp_jq h4w (Or.inl rfl), fun s hs => ?_⟩
  rw [cp_I h4w (by omega), wa_I a1 a2 h4 (by omega)]
theorem jq_80 {s : Nat} (q : jq ρ σ) (hs : ¬ (s = 85 ∨ s = 88 ∨ s = 89 ∨ s = 90 ∨ s = 102 ∨ s = 103)) : gI ρ 80 s = gI σ 80 s := q.1 _ _ (by omega)
theorem nq_80 {s : Nat} (q : nq ρ σ) : gI ρ 80 s = gI σ 80 s := q.1 _ _ (by omega)
set_option maxHeartbeats 1000000 in
theorem T517 {P : VL} (h : HJ σ S E t N K l m) (hX : aV σ 32656 = P) (hc : c = 16 ∨ c = 80) : okc (MM 517 [mR (some 80), mI c, mI g] σ) none (fun τ => if gI σ 80 78 = 60 then gI τ 80 90 = 12 ∧ jq τ σ else jpt σ τ (if c = 16 then allV S (plcV (vt P)) else becZ S (vt P) (vk P)) (if c = 16 then becZ S (vt P) (vk P) else allV S (plcV (vt P))) (gI σ 80 88) g t) := by
  have h' := h
  obtain ⟨⟨h1, h2, h3, h4⟩, ⟨h5, h6, h7⟩, ⟨h8, h9, h10⟩, ⟨h11, h12⟩, ⟨h13, h14⟩, h15⟩ := h'
  have k0 := kst_of h2
  have f4 := JSt_4 k0.1.2 k0.2.1 h1
  have t1 := T468s (σ := σ) (x := 0) (y := 251) (by omega) (by omega) (by omega) k0 h1
  have eT : gI σ 121 32656 = vt P := by rw [q121, hX]
  have eK : gI σ 118 32656 = vk P := by rw [q118, hX]
  have c1 : JSt (cpS σ 0 251) 251 S := cp_J (by omega) (by omega) (by omega) k0.1 k0.2.1 h1
  have c0 : J0 (cpS σ 0 251) S := cp_o f4 (by omega) k0.1.2 k0.2.1 h1
  have cq : jq (cpS σ 0 251) σ := cp_jq f4 (Or.inr (Or.inl rfl))
  have c80 : ∀ s, gI (cpS σ 0 251) 80 s = gI σ 80 s := fun s => cp_I f4 (by omega)
  have s27 : MM 517 [mR (some 80), mI c, mI g] σ = RR (lkB tb517) (B517_27, [some (mR (some 80)), some (mI c), some (mI g), some (mI (vt P)), some (mI (vk P))], [], cpS σ 0 251) := by
    simp only [M517, e517_0, Option.getD_some, Option.bind_some, Option.toList_some, Option.toList_none, List.cons_append, List.nil_append, and_self, and_true, true_and, false_and, and_false, ite_self, not_true_eq_false, not_false_eq_true, reduceIte, Nat.reduceEqDiff, ab_I, ab_L, ab_R, ao_I, ao_L, ao_R, gL_sL, gI_sI, gR_sR, gI_sL, gI_sR, gL_sI, gL_sR, gR_sI, gR_sL, g_121, g_118, Int.reduceLT, Int.reduceLE, show (32656 : Int).toNat = 32656 from rfl, eT, eK, show (MM 468 [mR (some 80), mI 0, mI 251] σ) = some (none, cpS σ 0 251) from t1]
  rw [s27]
  generalize cpS σ 0 251 = σ1 at *
  have both : ∀ (SW SN : ST) (ρ : MS), J0 ρ SW → kst SW → nq ρ σ1 → kst SN → (∀ ρ', J0 ρ' S → okc (RR (lkB tb517) (B517_65, [some (mR (some 80)), some (mI c), some (mI g), some (mI (vt P)), some (mI (vk P))], [], ρ')) none (fun τ => J0 τ SN ∧ nq τ ρ')) → okc (RR (lkB tb517) (B517_48, [some (mR (some 80)), some (mI c), some (mI g), some (mI (vt P)), some (mI (vk P))], [], ρ)) none (fun τ => if gI σ 80 78 = 60 then gI τ 80 90 = 12 ∧ jq τ σ else jpt σ τ SN SW (gI σ 80 88) g t) := by
    intro SW SN ρ jW kW' nW kN fin
    have qW : jq ρ σ := jq_t (nq_jq nW) cq
    have w0 : gI ρ 80 90 = 0 := by rw [nq_80 nW, c80, h5]
    by_cases e60 : m = 60
    · have e : gI ρ 80 78 = 60 := by rw [nq_80 nW, c80, h13, e60]; rfl
      rw [show (fun τ => if gI σ 80 78 = 60 then gI τ 80 90 = 12 ∧ jq τ σ else jpt σ τ SN SW (gI σ 80 88) g t) = fun τ => gI τ 80 90 = 12 ∧ jq τ σ from funext fun τ => if_pos (by rw [h13, e60]; rfl)]
      simp only [e517_48, e517_53, Option.getD_some, Option.bind_some, Option.toList_some, Option.toList_none, List.cons_append, List.nil_append, and_self, and_true, true_and, false_and, and_false, ite_self, not_true_eq_false, not_false_eq_true, reduceIte, Nat.reduceEqDiff, ab_I, ab_L, ab_R, ao_I, ao_L, ao_R, gL_sL, gI_sI, gR_sR, gI_sL, gI_sR, gL_sI, gL_sR, gR_sI, gR_sL, T514f e]
      exact okc_s ⟨by rw [fl_g, w0, fst0], jq_t jq_f qW⟩
    · rw [show (fun τ => if gI σ 80 78 = 60 then gI τ 80 90 = 12 ∧ jq τ σ else jpt σ τ SN SW (gI σ 80 88) g t) = fun τ => jpt σ τ SN SW (gI σ 80 88) g t from funext fun τ => if_neg (by rw [h13]; omega)]
      obtain ⟨p1, p2, p3, p4, p5⟩ := prt_2 (g := g) h (by omega) qW jW kW' (nq_J nW (by omega) k0.1.2 k0.2.1 c1) k0
      simp only [e517_48, e517_53, Option.getD_some, Option.bind_some, Option.toList_some, Option.toList_none, List.cons_append, List.nil_append, and_self, and_true, true_and, false_and, and_false, ite_self, not_true_eq_false, not_false_eq_true, reduceIte, Nat.reduceEqDiff, ab_I, ab_L, ab_R, ao_I, ao_L, ao_R, gL_sL, gI_sI, gR_sR, gI_sL, gI_sR, gL_sI, gL_sR, gR_sI, gR_sL, p1, oneI, p2]
      refine okc_m (fin _ p3) fun τ q => ?_
      refine ⟨ρ, qW, w0, jW, kW', jq_t (nq_jq q.2) p4, ?_, q.1, ?_, ?_, ?_⟩
      · rw [nq_80 q.2, p5 90 (by omega), w0]
      · rw [nq_80 q.2, p5 88 (by omega), nq_80 nW, c80]
      · rw [nq_80 q.2, p5 89 (by omega), nq_80 nW, c80]
      · rw [nq_80 q.2, p5 85 (by omega), nq_80 nW, c80, h6]
  rcases hc with rfl | rfl
  · rw [if_pos rfl, if_pos rfl]
    simp only [e517_27, Option.getD_some, Option.bind_some, Option.toList_some, Option.toList_none, List.cons_append, List.nil_append, and_self, and_true, true_and, false_and, and_false, ite_self, not_true_eq_false, not_false_eq_true, reduceIte, Nat.reduceEqDiff, ab_I, ab_L, ab_R, ao_I, ao_L, ao_R, gL_sL, gI_sI, gR_sR, gI_sL, gI_sR, gL_sI, gL_sR, gR_sI, gR_sL]
    refine okc_b (T518 c0 k0.1.2 k0.2.1) fun ρ q => ?_
    simp only [Option.toList_none, List.nil_append, e517_40]
    refine both _ _ ρ q.1 (kst_bec k0) q.2 (kst_plc k0) fun ρ' j' => ?_
    simp only [e517_65, e517_76, e517_86, Option.getD_some, Option.bind_some, Option.toList_some, Option.toList_none, List.cons_append, List.nil_append, and_self, and_true, true_and, false_and, and_false, ite_self, not_true_eq_false, not_false_eq_true, reduceIte, Nat.reduceEqDiff, ab_I, ab_L, ab_R, ao_I, ao_L, ao_R, gL_sL, gI_sI, gR_sR, gI_sL, gI_sR, gL_sI, gL_sR, gR_sI, gR_sL, T519 j'.1 k0.1.2]
    exact okc_s ⟨ap_J0 k0.1.2 j', ap_nq (by have := k0.1.2; omega)⟩
  · rw [if_neg (by decide), if_neg (by decide)]
    simp only [e517_27, Option.getD_some, Option.bind_some, Option.toList_some, Option.toList_none, List.cons_append, List.nil_append, and_self, and_true, true_and, false_and, and_false, ite_self, not_true_eq_false, not_false_eq_true, reduceIte, Nat.reduceEqDiff, ab_I, ab_L, ab_R, ao_I, ao_L, ao_R, gL_sL, gI_sI, gR_sR, gI_sL, gI_sR, gL_sI, gL_sR, gR_sI, gR_sL, Int.reduceEq, T519 c0.1 k0.1.2]
    refine both _ _ _ (ap_J0 k0.1.2 c0) (kst_plc k0) (ap_nq (by have := k0.1.2; omega)) (kst_bec k0) fun ρ' j' => ?_
    simp only [e517_65, Option.getD_some, Option.bind_some, Option.toList_some, Option.toList_none, List.cons_append, List.nil_append, and_self, and_true, true_and, false_and, and_false, ite_self, not_true_eq_false, not_false_eq_true, reduceIte, Nat.reduceEqDiff, ab_I, ab_L, ab_R, ao_I, ao_L, ao_R, gL_sL, gI_sI, gR_sR, gI_sL, gI_sR, gL_sI, gL_sR, gR_sI, gR_sL, Int.reduceEq]
    refine okc_b (T518 j' k0.1.2 k0.2.1) fun τ q => ?_
    simp only [Option.toList_none, List.nil_append, e517_86]
    exact okc_s q
set_option maxHeartbeats 1000000 in
theorem T521 {P : VL} (h : HJ σ S E t N K l m) (hX : aV σ 32656 = P) (hO : -4096 ≤ vo P ∧ vo P ≤ 4096) (hc : isOrd c) : okc (MM 521 [mR (some 80), mI c, mI g] σ) none (fun τ => if gI σ 80 78 = 60 then gI τ 80 90 = 12 ∧ jq τ σ else jpt σ τ (if c = 32 then allV S (rchV (vt P) (vo P)) else if c = 48 then allV S (rchV (vt P) (vo P + 1)) else S) (if c = 160 then allV S (rchV (vt P) (vo P + 1)) else if c = 176 then allV S (rchV (vt P) (vo P)) else S) (gI σ 80 88) g t) := by
  have h' := h
  obtain ⟨⟨h1, h2, h3, h4⟩, ⟨h5, h6, h7⟩, ⟨h8, h9, h10⟩, ⟨h11, h12⟩, ⟨h13, h14⟩, h15⟩ := h'
  have k0 := kst_of h2
  have f4 := JSt_4 k0.1.2 k0.2.1 h1
  have t1 := T468s (σ := σ) (x := 0) (y := 251) (by omega) (by omega) (by omega) k0 h1
  have eT : gI σ 121 32656 = vt P := by rw [q121, hX]
  have eO : gI σ 119 32656 = vo P := by rw [q119, hX]
  have ew : w32 (vo P + 1) = vo P + 1 := w32_i (by omega) (by omega)
  have c1 : JSt (cpS σ 0 251) 251 S := cp_J (by omega) (by omega) (by omega) k0.1 k0.2.1 h1
  have c0 : J0 (cpS σ 0 251) S := cp_o f4 (by omega) k0.1.2 k0.2.1 h1
  have cq : jq (cpS σ 0 251) σ := cp_jq f4 (Or.inr (Or.inl rfl))
  have c80 : ∀ s, gI (cpS σ 0 251) 80 s = gI σ 80 s := fun s => cp_I f4 (by omega)
  have s27 : MM 521 [mR (some 80), mI c, mI g] σ = RR (lkB tb521) (B521_27, [some (mR (some 80)), some (mI c), some (mI g), some (mI (vt P)), some (mI (vo P))], [], cpS σ 0 251) := by
    simp only [M521, e521_0, Option.getD_some, Option.bind_some, Option.toList_some, Option.toList_none, List.cons_append, List.nil_append, and_self, and_true, true_and, false_and, and_false, ite_self, not_true_eq_false, not_false_eq_true, reduceIte, Nat.reduceEqDiff, ab_I, ab_L, ab_R, ao_I, ao_L, ao_R, gL_sL, gI_sI, gR_sR, gI_sL, gI_sR, gL_sI, gL_sR, gR_sI, gR_sL, g_121, g_119, Int.reduceLT, Int.reduceLE, show (32656 : Int).toNat = 32656 from rfl, eT, eO, show (MM 468 [mR (some 80), mI 0, mI 251] σ) = some (none, cpS σ 0 251) from t1]
  rw [s27]
  generalize cpS σ 0 251 = σ1 at *
  have both : ∀ (SW SN : ST) (ρ : MS), J0 ρ SW → kst SW → nq ρ σ1 → kst SN → (∀ ρ', J0 ρ' S → okc (RR (lkB tb521) (B521_79, [some (mR (some 80)), some (mI c), some (mI g), some (mI (vt P)), some (mI (vo P))], [], ρ')) none (fun τ => J0 τ SN ∧ nq τ ρ')) → okc (RR (lkB tb521) (B521_62, [some (mR (some 80)), some (mI c), some (mI g), some (mI (vt P)), some (mI (vo P))], [], ρ)) none (fun τ => if gI σ 80 78 = 60 then gI τ 80 90 = 12 ∧ jq τ σ else jpt σ τ SN SW (gI σ 80 88) g t) := by
    intro SW SN ρ jW kW' nW kN fin
    have qW : jq ρ σ := jq_t (nq_jq nW) cq
    have w0 : gI ρ 80 90 = 0 := by rw [nq_80 nW, c80, h5]
    by_cases e60 : m = 60
    · have e : gI ρ 80 78 = 60 := by rw [nq_80 nW, c80, h13, e60]; rfl
      rw [show (fun τ => if gI σ 80 78 = 60 then gI τ 80 90 = 12 ∧ jq τ σ else jpt σ τ SN SW (gI σ 80 88) g t) = fun τ => gI τ 80 90 = 12 ∧ jq τ σ from funext fun τ => if_pos (by rw [h13, e60]; rfl)]
      simp only [e521_62, e521_67, Option.getD_some, Option.bind_some, Option.toList_some, Option.toList_none, List.cons_append, List.nil_append, and_self, and_true, true_and, false_and, and_false, ite_self, not_true_eq_false, not_false_eq_true, reduceIte, Nat.reduceEqDiff, ab_I, ab_L, ab_R, ao_I, ao_L, ao_R, gL_sL, gI_sI, gR_sR, gI_sL, gI_sR, gL_sI, gL_sR, gR_sI, gR_sL, T514f e]
      exact okc_s ⟨by rw [fl_g, w0, fst0], jq_t jq_f qW⟩
    · rw [show (fun τ => if gI σ 80 78 = 60 then gI τ 80 90 = 12 ∧ jq τ σ else jpt σ τ SN SW (gI σ 80 88) g t) = fun τ => jpt σ τ SN SW (gI σ 80 88) g t from funext fun τ => if_neg (by rw [h13]; omega)]
      obtain ⟨p1, p2, p3, p4, p5⟩ := prt_2 (g := g) h (by omega) qW jW kW' (nq_J nW (by omega) k0.1.2 k0.2.1 c1) k0
      simp only [e521_62, e521_67, Option.getD_some, Option.bind_some, Option.toList_some, Option.toList_none, List.cons_append, List.nil_append, and_self, and_true, true_and, false_and, and_false, ite_self, not_true_eq_false, not_false_eq_true, reduceIte, Nat.reduceEqDiff, ab_I, ab_L, ab_R, ao_I, ao_L, ao_R, gL_sL, gI_sI, gR_sR, gI_sL, gI_sR, gL_sI, gL_sR, gR_sI, gR_sL, p1, oneI, p2]
      refine okc_m (fin _ p3) fun τ q => ?_
      refine ⟨ρ, qW, w0, jW, kW', jq_t (nq_jq q.2) p4, ?_, q.1, ?_, ?_, ?_⟩
      · rw [nq_80 q.2, p5 90 (by omega), w0]
      · rw [nq_80 q.2, p5 88 (by omega), nq_80 nW, c80]
      · rw [nq_80 q.2, p5 89 (by omega), nq_80 nW, c80]
      · rw [nq_80 q.2, p5 85 (by omega), nq_80 nW, c80, h6]
  rcases hc with rfl | rfl | rfl | rfl
  · simp only [Int.reduceEq, if_false, if_true, e521_27]
    refine both _ _ σ1 c0 k0 (nq_r _) (kst_rch k0) fun ρ' j' => ?_
    simp only [e521_79, e521_91, e521_108, e521_111, Option.getD_some, Option.bind_some, Option.toList_some, Option.toList_none, List.cons_append, List.nil_append, and_self, and_true, true_and, false_and, and_false, ite_self, not_true_eq_false, not_false_eq_true, reduceIte, Nat.reduceEqDiff, ab_I, ab_L, ab_R, ao_I, ao_L, ao_R, gL_sL, gI_sI, gR_sR, gI_sL, gI_sR, gL_sI, gL_sR, gR_sI, gR_sL, Int.reduceEq, T522 j'.1 k0.1.2]
    exact okc_s ⟨ap_J0 k0.1.2 j', ap_nq (by have := k0.1.2; omega)⟩
  · simp only [Int.reduceEq, if_false, if_true, e521_27]
    refine both _ _ σ1 c0 k0 (nq_r _) (kst_rch k0) fun ρ' j' => ?_
    simp only [e521_79, e521_91, e521_108, e521_111, Option.getD_some, Option.bind_some, Option.toList_some, Option.toList_none, List.cons_append, List.nil_append, and_self, and_true, true_and, false_and, and_false, ite_self, not_true_eq_false, not_false_eq_true, reduceIte, Nat.reduceEqDiff, ab_I, ab_L, ab_R, ao_I, ao_L, ao_R, gL_sL, gI_sI, gR_sR, gI_sL, gI_sR, gL_sI, gL_sR, gR_sI, gR_sL, Int.reduceEq, ew, T522 j'.1 k0.1.2]
    exact okc_s ⟨ap_J0 k0.1.2 j', ap_nq (by have := k0.1.2; omega)⟩
  · simp only [Int.reduceEq, if_false, if_true, e521_27, e521_41, e521_59, ew, T522 c0.1 k0.1.2, Option.bind_some, Option.toList_none, List.nil_append]
    refine both _ _ _ (ap_J0 k0.1.2 c0) (kst_rch k0) (ap_nq (by have := k0.1.2; omega)) k0 fun ρ' j' => ?_
    simp only [e521_79, e521_111, Option.getD_some, Option.bind_some, Option.toList_some, Option.toList_none, List.cons_append, List.nil_append, and_self, and_true, true_and, false_and, and_false, ite_self, not_true_eq_false, not_false_eq_true, reduceIte, Nat.reduceEqDiff, ab_I, ab_L, ab_R, ao_I, ao_L, ao_R, gL_sL, gI_sI, gR_sR, gI_sL, gI_sR, gL_sI, gL_sR, gR_sI, gR_sL, Int.reduceEq]
    exact okc_s ⟨j', nq_r _⟩
  · simp only [Int.reduceEq, if_false, if_true, e521_27, e521_41, e521_59, T522 c0.1 k0.1.2, Option.bind_some, Option.toList_none, List.nil_append, not_true_eq_false, not_false_eq_true]
    refine both _ _ _ (ap_J0 k0.1.2 c0) (kst_rch k0) (ap_nq (by have := k0.1.2; omega)) k0 fun ρ' j' => ?_
    simp only [e521_79, e521_111, Option.getD_some, Option.bind_some, Option.toList_some, Option.toList_none, List.cons_append, List.nil_append, and_self, and_true, true_and, false_and, and_false, ite_self, not_true_eq_false, not_false_eq_true, reduceIte, Nat.reduceEqDiff, ab_I, ab_L, ab_R, ao_I, ao_L, ao_R, gL_sL, gI_sI, gR_sR, gI_sL, gI_sR, gL_sI, gL_sR, gR_sI, gR_sL, Int.reduceEq]
    exact okc_s ⟨j', nq_r _⟩
end PRT
