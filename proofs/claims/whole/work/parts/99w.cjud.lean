/-! ===== the class's judge, whole ===== -/
abbrev cjT (q : Nat) : Prop := (39 ≤ q ∧ q ≤ 61) ∨ q = 70
/-- what the judge may change, beside the states -/
def jcq (x : Nat) (τ σ : MS) : Prop := (∀ q s, oth σ q → ¬ cjT q → ¬ (q = 16 ∧ s = x) → gI τ q s = gI σ q s ∧ gL τ q s = gL σ q s ∧ gR τ q s = gR σ q s) ∧ (∀ q, oth σ q → kd τ q = kd σ q) ∧ pgr τ σ
/-- what is told behind it -/
def jcE (x : Nat) (σ τ : MS) (C : Int) (r : JD) : Prop := jcq x τ σ ∧ CWp τ C ∧ (gI τ 51 0 = r.2.1 ∧ gI τ 51 1 = r.2.2.1.1 ∧ gI τ 51 2 = r.2.2.1.2.1 ∧ gI τ 51 3 = r.2.2.1.2.2.1 ∧ gI τ 51 4 = r.2.2.1.2.2.2.1 ∧ gI τ 51 5 = r.2.2.1.2.2.2.2) ∧ KNc τ r.2.2.2 ∧ gI τ 16 x = (if r.1 = 0 then 1 else 0) ∧ ∃ hc, gR τ 39 14 = some hc
section CJUD
variable {σ τ ρ : MS} {x n hc sc : Nat} {E : EV} {r : JD} {C : Int} {q s : Nat}
theorem jcq_t {x : Nat} {a b c : MS} (h1 : jcq x a b) (h2 : jcq x b c) (pn : PCN b C) : jcq x a c := ⟨fun q s o p z => by
  have o' := pgr_o h2.2.2 pn o
  obtain ⟨x1, x2, x3⟩ := h1.1 q s o' p z
  obtain ⟨y1, y2, y3⟩ := h2.1 q s o p z
  exact ⟨x1.trans y1, x2.trans y2, x3.trans y3⟩, fun q o => (h1.2.1 q (pgr_o h2.2.2 pn o)).trans (h2.2.1 q o), pgr_t h1.2.2 h2.2.2⟩
theorem jcq_c (h : cwq τ σ) : jcq x τ σ := ⟨fun q s o p _ => h.1 q s o (by omega), h.2.1, h.2.2⟩
/-- a change beside the states -/
theorem jcq_s (po : POOL σ) (h : ∀ q s, ¬ cjT q → ¬ (q = 16 ∧ s = x) → (q < 62 ∨ 70 ≤ q) ∨ oth σ q → gI τ q s = gI σ q s ∧ gL τ q s = gL σ q s ∧ gR τ q s = gR σ q s) (e : ∀ s, s < 312 → slR τ s = slR σ s) (ek : τ.2.2.2 = σ.2.2.2) : jcq x τ σ ∧ POOL τ ∧ (∀ C, PCN σ C → PCN τ C) := by
  obtain ⟨q1, q2, q3⟩ := po_id po e ek
  exact ⟨⟨fun q s o p z => h q s p z (Or.inr o), fun q _ => kd_r3 ek q, q3⟩, q1, q2⟩
theorem T205 (hx : x < 8) : MM 205 [mI (x : Int)] σ = some (some (mI 1), σ) := by
  have n1 : ¬ (x : Int) < 0 := by omega
  have n2 : ¬ 8 ≤ (x : Int) := by omega
  simp only [M205, e205_0, Option.getD_some, Option.bind_some, Option.toList_some, Option.toList_none, List.cons_append, List.nil_append, and_self, and_true, true_and, false_and, and_false, ite_self, not_true_eq_false, not_false_eq_true, reduceIte, Nat.reduceEqDiff, ab_I, ab_L, ab_R, ao_I, ao_L, ao_R, gL_sL, gI_sI, gR_sR, gI_sL, gI_sR, gL_sI, gL_sR, gR_sI, gR_sL, n1, n2]
theorem T205n {x : Int} (hx : x < 0 ∨ 8 ≤ x) : MM 205 [mI x] σ = some (some (mI 0), σ) := by
  by_cases n1 : x < 0
  · simp only [M205, e205_0, e205_14, Option.getD_some, Option.bind_some, Option.toList_some, Option.toList_none, List.cons_append, List.nil_append, and_self, and_true, true_and, false_and, and_false, ite_self, not_true_eq_false, not_false_eq_true, reduceIte, Nat.reduceEqDiff, ab_I, ab_L, ab_R, ao_I, ao_L, ao_R, gL_sL, gI_sI, gR_sR, gI_sL, gI_sR, gL_sI, gL_sR, gR_sI, gR_sL, n1]
  · have n2 : 8 ≤ x := by omega
    simp only [M205, e205_0, e205_14, Option.getD_some, Option.bind_some, Option.toList_some, Option.toList_none, List.cons_append, List.nil_append, and_self, and_true, true_and, false_and, and_false, ite_self, not_true_eq_false, not_false_eq_true, reduceIte, Nat.reduceEqDiff, ab_I, ab_L, ab_R, ao_I, ao_L, ao_R, gL_sL, gI_sI, gR_sR, gI_sL, gI_sR, gL_sI, gL_sR, gR_sI, gR_sL, n1, n2]
theorem T297 (hx : x < 8) : MM 297 [mR (some 0), mI (x : Int)] σ = some (some (mI (gI σ 15 x)), σ) := by
  have b0 : 0 ≤ (x : Int) ∧ (x : Int) < 8 := by omega
  simp only [M297, e297_0, e297_4, Option.getD_some, Option.bind_some, Option.toList_some, Option.toList_none, List.cons_append, List.nil_append, and_self, and_true, true_and, false_and, and_false, ite_self, not_true_eq_false, not_false_eq_true, reduceIte, Nat.reduceEqDiff, ab_I, ab_L, ab_R, ao_I, ao_L, ao_R, gL_sL, gI_sI, gR_sR, gI_sL, gI_sR, gL_sI, gL_sR, gR_sI, gR_sL, T205 hx, oneI, g_15, b0.1, b0.2, Int.toNat_natCast]
theorem T297n {x : Int} (hx : x < 0 ∨ 8 ≤ x) : MM 297 [mR (some 0), mI x] σ = some (some (mI 0), σ) := by
  simp only [M297, e297_0, e297_4, Option.getD_some, Option.bind_some, Option.toList_some, Option.toList_none, List.cons_append, List.nil_append, and_self, and_true, true_and, false_and, and_false, ite_self, not_true_eq_false, not_false_eq_true, reduceIte, Nat.reduceEqDiff, ab_I, ab_L, ab_R, ao_I, ao_L, ao_R, gL_sL, gI_sI, gR_sR, gI_sL, gI_sR, gL_sI, gL_sR, gR_sI, gR_sL, T205n hx]
/-- the end of judge -/
theorem L302 (hx : x < 8) {x2 : Int} {x3 : Option Nat} {f : Int} : RR (lkB tb302) (B302_70, [some (mR (some 0)), some (mI (x : Int)), some (mI x2), some (mR x3), some (mI f)], [], σ) = some (some (mI f), sI σ 16 x (if f = 0 then 1 else 0)) := by
  have b0 : 0 ≤ (x : Int) ∧ (x : Int) < 8 := by omega
  by_cases z : f = 0
  · rw [if_pos z]
    simp only [e302_70, e302_88, Option.getD_some, Option.bind_some, Option.toList_some, Option.toList_none, List.cons_append, List.nil_append, and_self, and_true, true_and, false_and, and_false, ite_self, not_true_eq_false, not_false_eq_true, reduceIte, Nat.reduceEqDiff, ab_I, ab_L, ab_R, ao_I, ao_L, ao_R, gL_sL, gI_sI, gR_sR, gI_sL, gI_sR, gL_sI, gL_sR, gR_sI, gR_sL, eq_true z, g_16, b0.1, b0.2, Int.toNat_natCast, show (1 : Int) % 2 = 1 from rfl]
  · rw [if_neg z]
    simp only [e302_70, e302_88, Option.getD_some, Option.bind_some, Option.toList_some, Option.toList_none, List.cons_append, List.nil_append, and_self, and_true, true_and, false_and, and_false, ite_self, not_true_eq_false, not_false_eq_true, reduceIte, Nat.reduceEqDiff, ab_I, ab_L, ab_R, ao_I, ao_L, ao_R, gL_sL, gI_sI, gR_sR, gI_sL, gI_sR, gL_sI, gL_sR, gR_sI, gR_sL, z, not_false_eq_true, g_16, b0.1, b0.2, Int.toNat_natCast, show (0 : Int) % 2 = 0 from rfl]
theorem T302 (hx : x < 8) (hn : gI σ 15 x = (n : Int)) (n0 : 0 < n) (n200 : n ≤ 200) (g6 : gR σ 6 x = some (7 + x)) (po : POOL σ) (pn : PCN σ C) (h14 : gR σ 39 14 = some hc) (h15 : gR σ 39 15 = some sc) (hE : okE E) (hC : CEO σ E) (hr : judR E (fun j => gL σ (7 + x) j) n r) : okc (MM 302 [mR (some 0), mI (x : Int)] σ) (some (mI r.1)) (fun τ => jcE x σ τ C r) := by
  have b0 : 0 ≤ (x : Int) ∧ (x : Int) < 8 := by omega
  have hc7 : 7 ≤ 7 + x ∧ 7 + x ≤ 14 := by omega
  have t97 := T297 (σ := σ) hx
  rw [hn] at t97
  obtain ⟨τ1, t27, a1, a2, a3, a4, ⟨a5, a6⟩, a7, a8, a9⟩ := T27 (σ := σ) (n := n)
  have g6' : (Option.isSome (some 6) = true ∧ ab σ 6 6 (x : Int)) = True := by
    rw [g_6]
    exact eq_true b0
  have nz : ¬ (n : Int) = 0 := by omega
  have s30 : MM 302 [mR (some 0), mI (x : Int)] σ = RR (lkB tb302) (B302_30, [some (mR (some 0)), some (mI (x : Int)), some (mI (n : Int)), some (mR (some (7 + x))), none], [], τ1) := by
    simp only [M302, e302_0, e302_5, Option.getD_some, Option.bind_some, Option.toList_some, Option.toList_none, List.cons_append, List.nil_append, and_self, and_true, true_and, false_and, and_false, ite_self, not_true_eq_false, not_false_eq_true, reduceIte, Nat.reduceEqDiff, ab_I, ab_L, ab_R, ao_I, ao_L, ao_R, gL_sL, gI_sI, gR_sR, gI_sL, gI_sR, gL_sI, gL_sR, gR_sI, gR_sL, t97, nz, not_false_eq_true, g6', Int.toNat_natCast, g6, t27]
  rw [s30]
  clear s30 t97 t27
  obtain ⟨a10, a11, a12, a13⟩ := a1
  have sl1 : ∀ s, s < 312 → slR τ1 s = slR σ s := fun s _ => by
    unfold slR
    rw [a12 _ _ (by omega), a12 _ _ (by omega), a12 _ _ (by omega), a12 _ _ (by omega)]
  obtain ⟨j1, po1, pn1⟩ := jcq_s (x := x) (τ := τ1) po (fun q s p z _ => ⟨a10 q s (by omega) (by omega) (by omega), a11 q s (by omega), a12 q s (by omega)⟩) sl1 a13
  have pn1 := pn1 C pn
  have code1 : ∀ j, gL σ (7 + x) j = gL τ1 (7 + x) j := fun j => (a11 _ _ (by omega)).symm
  -- the end, whatever has been found
  have fin : ∀ (τ : MS) (f : Int), r.1 = f → jcq x τ σ → CWp τ C → (∃ hc, gR τ 39 14 = some hc) → gI τ 51 0 = r.2.1 → gI τ 51 1 = r.2.2.1.1 → gI τ 51 2 = r.2.2.1.2.1 → gI τ 51 3 = r.2.2.1.2.2.1 → gI τ 51 4 = r.2.2.1.2.2.2.1 → gI τ 51 5 = r.2.2.1.2.2.2.2 → KNc τ r.2.2.2 → okc (RR (lkB tb302) (B302_70, [some (mR (some 0)), some (mI (x : Int)), some (mI (n : Int)), some (mR (some (7 + x))), some (mI f)], [], τ)) (some (mI r.1)) (fun τ => jcE x σ τ C r) := fun τ f e1 e2 e3 e14 e4 e5 e6 e7 e8 e9 e10 => by
    obtain ⟨p1, p2, p3⟩ := e3
    have gi : ∀ q s, ¬ (q = 16 ∧ s = x) → gI (sI τ 16 x (if f = 0 then 1 else 0)) q s = gI τ q s := fun q s h => by rw [gI_sI, if_neg h]
    obtain ⟨j2, q1, q2⟩ := jcq_s (x := x) (τ := sI τ 16 x (if f = 0 then 1 else 0)) p1 (fun q s _ z _ => ⟨gi q s z, rfl, rfl⟩) (fun _ _ => rfl) rfl
    refine okc_o (τ := sI τ 16 x (if f = 0 then 1 else 0)) (by rw [e1]; exact L302 hx) ⟨jcq_t j2 e2 p2, ⟨q1, q2 C p2, p3⟩, ⟨(gi _ _ (by omega)).trans e4, (gi _ _ (by omega)).trans e5, (gi _ _ (by omega)).trans e6, (gi _ _ (by omega)).trans e7, (gi _ _ (by omega)).trans e8, (gi _ _ (by omega)).trans e9⟩, KN_c (fun s => gi _ _ (by omega)) (fun s => rfl) e10, ?_⟩
    refine ⟨?_, e14⟩
    rw [gI_sI, if_pos ⟨rfl, rfl⟩, e1]
  -- FORM
  obtain ⟨τ2, t30, c1, c2, c3, c4⟩ := T30 (σ := τ1) (p := fun j => gL σ (7 + x) j) hc7 n200 code1 a2 (fun j hj => (a7 54 j (Or.inr (Or.inl rfl)) hj).trans rfl)
  have r2 : ∀ q s, gR τ2 q s = gR τ1 q s := fun q s => cpq_R c1
  have l2 : ∀ q s, gL τ2 q s = gL τ1 q s := fun q s => cpq_L c1
  have k2 : τ2.2.2.2 = τ1.2.2.2 := by rw [c1.2]
  obtain ⟨j2, po2, pn2⟩ := jcq_s (x := x) (τ := τ2) po1 (fun q s p z _ => ⟨c1.1 q s (by omega) (by omega), l2 q s, r2 q s⟩) (fun s _ => by
    unfold slR
    rw [r2, r2, r2, r2]) k2
  have pn2 := pn2 C pn1
  have j2σ := jcq_t j2 j1 pn1
  have h15_2 : gR τ2 39 15 = some sc := (r2 _ _).trans ((a12 _ _ (by omega)).trans h15)
  have h14_2 : gR τ2 39 14 = some hc := (r2 _ _).trans ((a12 _ _ (by omega)).trans h14)
  have f51 : ∀ s, 1 ≤ s → s < 6 → ¬ s = 3 → gI τ2 51 s = 0 := fun s h1 h2 h3 => (c1.1 _ _ (by omega) (by omega)).trans (a6 s h1 h2)
  have kn2 : KNc τ2 (fun _ => none) := fun i hi => ⟨fun S e => (by cases e), fun _ => (c1.1 _ _ (by omega) (by omega)).trans (a7 52 i (Or.inl rfl) hi)⟩
  rcases hr with ⟨i, S, hf, rfl⟩ | ⟨S, hf, hr⟩
  · rw [hf] at t30 c4
    rw [if_neg (by intro y; cases y)] at t30
    obtain ⟨y1, y2⟩ := c4 i rfl
    have s70 : RR (lkB tb302) (B302_30, [some (mR (some 0)), some (mI (x : Int)), some (mI (n : Int)), some (mR (some (7 + x))), none], [], τ1) = RR (lkB tb302) (B302_70, [some (mR (some 0)), some (mI (x : Int)), some (mI (n : Int)), some (mR (some (7 + x))), some (mI 1)], [], τ2) := by
      simp only [e302_30, e302_38, e302_55, Option.getD_some, Option.bind_some, Option.toList_some, Option.toList_none, List.cons_append, List.nil_append, and_self, and_true, true_and, false_and, and_false, ite_self, not_true_eq_false, not_false_eq_true, reduceIte, Nat.reduceEqDiff, ab_I, ab_L, ab_R, ao_I, ao_L, ao_R, gL_sL, gI_sI, gR_sR, gI_sL, gI_sR, gL_sI, gL_sR, gR_sI, gR_sL, t30, oneI]
    rw [s70]
    exact fin τ2 1 rfl j2σ ⟨po2, pn2, sc, h15_2⟩ ⟨hc, h14_2⟩ y1 (f51 1 (by decide) (by decide) (by decide)) (f51 2 (by decide) (by decide) (by decide)) y2 (f51 4 (by decide) (by decide) (by decide)) (f51 5 (by decide) (by decide) (by decide)) kn2
  · rw [hf] at t30 c3
    rw [if_pos rfl] at t30
    obtain ⟨⟨y1, y2⟩, y3⟩ := c3 rfl
    obtain ⟨-, -, s3⟩ := frm_s _ _ _ _ hf (by omega)
    have hS : ∀ j, S j = true → ¬ spn (fun j => gL σ (7 + x) j) n j = 0 := fun j hj => ((s3 j hj).resolve_left (fun q => by cases q)).2.2.1
    obtain ⟨τ3, t31, d1, d2, d3⟩ := T31 (σ := τ2) (S := S) (p := fun j => gL σ (7 + x) j) hc7 n200 (fun j => (code1 j).trans (l2 _ _).symm) ((c1.1 _ _ (by omega) (by omega)).trans a2) y3 (fun j hj => (c2 55 j (by omega) (by omega)).trans (a7 55 j (Or.inr (Or.inr (Or.inl rfl))) hj)) (fun j hj => (c2 56 j (by omega) (by omega)).trans (a7 56 j (Or.inr (Or.inr (Or.inr rfl))) hj)) hS
    have r3 : ∀ q s, gR τ3 q s = gR τ2 q s := fun q s => cpq_R d1
    have l3 : ∀ q s, gL τ3 q s = gL τ2 q s := fun q s => cpq_L d1
    obtain ⟨j3, po3, pn3⟩ := jcq_s (x := x) (τ := τ3) po2 (fun q s p z _ => ⟨d1.1 q s (by omega) (by omega), l3 q s, r3 q s⟩) (fun s _ => by
      unfold slR
      rw [r3, r3, r3, r3]) (by rw [d1.2])
    have pn3 := pn3 C pn2
    have j3σ := jcq_t j3 j2σ pn2
    have h15_3 : gR τ3 39 15 = some sc := (r3 _ _).trans h15_2
    have h14_3 : gR τ3 39 14 = some hc := (r3 _ _).trans h14_2
    rcases hr with ⟨i, hc', rfl⟩ | ⟨hc', f, e, w, hw, rfl⟩
    · rw [if_neg (by rw [hc']; intro y; cases y)] at t31
      obtain ⟨u1, u2⟩ := d3 i hc'
      have o2 : ((2 : Int) = 0) = False := by simp
      have s70 : RR (lkB tb302) (B302_30, [some (mR (some 0)), some (mI (x : Int)), some (mI (n : Int)), some (mR (some (7 + x))), none], [], τ1) = RR (lkB tb302) (B302_70, [some (mR (some 0)), some (mI (x : Int)), some (mI (n : Int)), some (mR (some (7 + x))), some (mI 2)], [], τ3) := by
        simp only [e302_30, e302_38, e302_53, e302_55, Option.getD_some, Option.bind_some, Option.toList_some, Option.toList_none, List.cons_append, List.nil_append, and_self, and_true, true_and, false_and, and_false, ite_self, not_true_eq_false, not_false_eq_true, reduceIte, Nat.reduceEqDiff, ab_I, ab_L, ab_R, ao_I, ao_L, ao_R, gL_sL, gI_sI, gR_sR, gI_sL, gI_sR, gL_sI, gL_sR, gR_sI, gR_sL, t30, t31, o2]
      rw [s70]
      have f51' : ∀ s, 1 ≤ s → s < 6 → ¬ s = 3 → gI τ3 51 s = 0 := fun s h1 h2 h3 => (d1.1 _ _ (by omega) (by omega)).trans (f51 s h1 h2 h3)
      exact fin τ3 2 rfl j3σ ⟨po3, pn3, sc, h15_3⟩ ⟨hc, h14_3⟩ u1 (f51' 1 (by decide) (by decide) (by decide)) (f51' 2 (by decide) (by decide) (by decide)) u2 (f51' 4 (by decide) (by decide) (by decide)) (f51' 5 (by decide) (by decide) (by decide)) (KN_c (fun s => d1.1 _ _ (by omega) (by omega)) (fun s => l3 _ _) kn2)
    · rw [if_pos hc'] at t31
      obtain ⟨u1, u2⟩ := d2 hc'
      have hp := okP_of (p := fun j => gL σ (7 + x) j) (n := n) hf (fun i hi hS' => plc_n (n + 1) 0 (by omega) hc' i (Nat.zero_le _) hi hS')
      have S00 := (frm_s _ _ _ _ hf (by omega)).2.1 n0
      have g3 : ∀ q s, ¬ (q = 51 ∧ (s = 0 ∨ s = 3)) → ¬ (54 ≤ q ∧ q ≤ 57) → gI τ3 q s = gI τ1 q s := fun q s h1 h2 => (d1.1 q s h1 h2).trans (c1.1 q s h1 h2)
      have sE : SEc τ3 E (fun i => gL σ (7 + x) i.toNat) (fun j => joiP (fun j => gL σ (7 + x) j) n S j) (7 + x) := by
        refine ⟨hc7, fun m hm => ?_, ?_, fun i hi => ?_, fun i hi => ?_⟩
        · rw [g3 31 m (by omega) (by omega), g3 32 m (by omega) (by omega), g3 29 m (by omega) (by omega), g3 30 m (by omega) (by omega), a10 31 m (by omega) (by omega) (by omega), a10 32 m (by omega) (by omega) (by omega), a10 29 m (by omega) (by omega) (by omega), a10 30 m (by omega) (by omega) (by omega)]
          exact hC m hm
        · have e : ∀ s, gL τ3 41 s = gL τ1 41 s := fun s => (l3 _ _).trans (l2 _ _)
          rw [← a9]
          unfold rC
          rw [e, e, e, e, e, e]
        · show gL τ3 (7 + x) i = gL σ (7 + x) (i : Int).toNat
          rw [Int.toNat_natCast, l3, l2]
          exact (code1 i).symm
        · rw [u2 i hi]
          show joM (fun j => gL σ (7 + x) j) S n i = true ↔ _
          split
          · rename_i q
            exact ⟨fun _ => by decide, fun _ => q⟩
          · rename_i q
            exact ⟨fun z => absurd z q, fun z => absurd rfl z⟩
      obtain ⟨τ4, t34, z1, z2, z3, z4, z5, z6⟩ := T34 (σ := τ3) hE hp (fun y hy => ⟨hy.1.1, by have := hy.1.2; omega⟩) ⟨⟨Int.le_refl _, by omega⟩, S00⟩ po3 pn3 h15_3 h14_3 sE ((u1 1).trans (f51 1 (by decide) (by decide) (by decide))) ((u1 2).trans (f51 2 (by decide) (by decide) (by decide))) ((u1 4).trans (f51 4 (by decide) (by decide) (by decide))) ((u1 5).trans (f51 5 (by decide) (by decide) (by decide))) ((g3 40 8 (by omega) (by omega)).trans a4) ((g3 39 11 (by omega) (by omega)).trans a3) (fun i hi => (g3 52 i (by omega) (by omega)).trans (a7 52 i (Or.inl rfl) hi)) (fun i hi => ⟨(r3 _ _).trans ((r2 _ _).trans (a8 60 i (Or.inl rfl) hi)), (r3 _ _).trans ((r2 _ _).trans (a8 61 i (Or.inr rfl) hi))⟩) hw
      have s70 : RR (lkB tb302) (B302_30, [some (mR (some 0)), some (mI (x : Int)), some (mI (n : Int)), some (mR (some (7 + x))), none], [], τ1) = RR (lkB tb302) (B302_70, [some (mR (some 0)), some (mI (x : Int)), some (mI (n : Int)), some (mR (some (7 + x))), some (mI e)], [], τ4) := by
        simp only [e302_30, e302_38, e302_53, e302_55, e302_68, Option.getD_some, Option.bind_some, Option.toList_some, Option.toList_none, List.cons_append, List.nil_append, and_self, and_true, true_and, false_and, and_false, ite_self, not_true_eq_false, not_false_eq_true, reduceIte, Nat.reduceEqDiff, ab_I, ab_L, ab_R, ao_I, ao_L, ao_R, gL_sL, gI_sI, gR_sR, gI_sL, gI_sR, gL_sI, gL_sR, gR_sI, gR_sL, t30, t31, t34]
      rw [s70]
      obtain ⟨⟨e1, e2, e4, e5⟩, ek⟩ := z3
      refine fin τ4 e rfl (jcq_t (jcq_c z1) j3σ pn3) z2 z6 ?_ e1 e2 ?_ e4 e5 ek
      · show gI τ4 51 0 = (if e = 0 then -1 else yA w)
        by_cases z : e = 0
        · rw [if_pos z, (z5 z).1, u1, y1]
          exact a5
        · rw [if_neg z]
          exact (z4 z).1
      · show gI τ4 51 3 = (if e = 0 then kL (yH w 0) else 0)
        by_cases z : e = 0
        · rw [if_pos z]
          exact (z5 z).2
        · rw [if_neg z]
          exact (z4 z).2
end CJUD
