/-! ===== the class's kept states: the first that covers (findCovering) ===== -/
def fnd (P : Nat → Bool) : Nat → Nat → Option Nat
  | 0, _ => none
  | f + 1, m => if P m = true then some m else fnd P f (m + 1)
section CFND
variable {τ σ ρ : MS} {cf : Nat → Nat} {K : Nat → KT} {N k j : Nat} {D : Nat → Bool} {S : ST} {E : EV} {t : Int} {P Q : Nat → Bool}
theorem fnd_r : ∀ f m : Nat, (List.range' m f).find? P = fnd P f m := by
  intro f
  induction f with
  | zero => intro m; rfl
  | succ f ih =>
    intro m
    show (m :: List.range' (m + 1) f).find? P = if P m = true then some m else fnd P f (m + 1)
    by_cases h : P m = true
    · rw [if_pos h, List.find?_cons_of_pos h]
    · rw [if_neg h, List.find?_cons_of_neg h, ih]
theorem fnd_0 : (List.range N).find? P = fnd P N 0 := by rw [List.range_eq_range', fnd_r]
theorem fnd_e (h : ∀ j, P j = Q j) : ∀ f m : Nat, fnd P f m = fnd Q f m := by
  intro f
  induction f with
  | zero => intro m; rfl
  | succ f ih =>
    intro m
    show (if P m = true then some m else fnd P f (m + 1)) = (if Q m = true then some m else fnd Q f (m + 1))
    rw [h, ih]
theorem fnd_b : ∀ f m : Nat, fnd P f m = some k → m ≤ k ∧ k < m + f ∧ P k = true := by
  intro f
  induction f with
  | zero => intro m h; cases h
  | succ f ih =>
    intro m h
    have h : (if P m = true then some m else fnd P f (m + 1)) = some k := h
    by_cases c : P m = true
    · rw [if_pos c] at h
      have e : m = k := Option.some.inj h
      rw [← e]
      exact ⟨Nat.le_refl _, by omega, c⟩
    · rw [if_neg c] at h
      obtain ⟨a, b, d⟩ := ih _ h
      exact ⟨by omega, by omega, d⟩
/-- who follows whom at a word -/
def KF (σ : MS) (cf : Nat → Nat) (K : Nat → KT) (N : Nat) : Prop := ∀ k, k < N → gR σ (cf k) 8 = (fnd (fun j => decide (kA (K j) = kA (K k))) (N - (k + 1)) (k + 1)).map cf
theorem vc_CSt {c : Nat} (hc : stC c) (q : vc τ σ) (h : CSt σ c S) : CSt τ c S := CSt_q (fun s => q.1 _ _ (by omega)) (fun s => q.1 _ _ (by omega)) (fun s => q.1 _ _ (by omega)) (fun s => q.2.1 _ _) h
theorem vc_KC (q : vc τ σ) (h : KC σ cf K N D) : KC τ cf K N D := fun k hk => by
  obtain ⟨⟨a1, ac⟩, a2, ⟨a5, a7, a9, a10⟩, a6⟩ := h k hk
  exact ⟨⟨st_r q.2.2 a1, ac⟩, vc_CSt ac q a2, ⟨(q.1 _ _ (by omega)).trans a5, (q.1 _ _ (by omega)).trans a7, (q.1 _ _ (by omega)).trans a9, (q.1 _ _ (by omega)).trans a10⟩, (gR_r q.2.2).trans a6⟩
theorem vc_KF (q : vc τ σ) (h : KF σ cf K N) : KF τ cf K N := fun k hk => (gR_r q.2.2).trans (h k hk)
theorem L37 {a : Int} {hc : Nat} (sc : stC hc) (hP : ∀ k, k < N → PX (kS (K k)) E t) (hS : PX S E t) : ∀ (f m : Nat) (σ : MS), m + f = N → KC σ cf K N D → KF σ cf K N → gR σ 39 14 = some hc → isSt σ hc → CSt σ hc S →
    okc (RR (lkB tb37) (B37_7, [some (mR (some 39)), some (mI a), some (mR ((fnd (fun j => decide (kA (K j) = a)) f m).map cf))], [], σ)) (some (mR ((fnd (fun j => decide (kA (K j) = a) && covS (kS (K j)) S) f m).map cf))) (fun τ => vc τ σ) := by
  intro f
  induction f with
  | zero =>
    intro m σ _ _ _ _ _ _
    refine okc_o (τ := σ) ?_ (vc_r σ)
    show RR (lkB tb37) (B37_7, [some (mR (some 39)), some (mI a), some (mR none)], [], σ) = some (some (mR none), σ)
    rw [e37_7, if_pos (show Option.isSome (none : Option Nat) = false from rfl)]
  | succ f ih =>
    intro m σ hm hK hF h14 hi hC
    show okc (RR (lkB tb37) (B37_7, [some (mR (some 39)), some (mI a), some (mR ((if (decide (kA (K m) = a)) = true then some m else fnd (fun j => decide (kA (K j) = a)) f (m + 1)).map cf))], [], σ)) (some (mR ((if (decide (kA (K m) = a) && covS (kS (K m)) S) = true then some m else fnd (fun j => decide (kA (K j) = a) && covS (kS (K j)) S) f (m + 1)).map cf))) (fun τ => vc τ σ)
    by_cases e : kA (K m) = a
    · have hmN : m < N := by omega
      obtain ⟨⟨a1, ac⟩, a2, _, _⟩ := hK m hmN
      have pm := hP m hmN
      rw [if_pos (decide_eq_true e)]
      have ao8 : ao σ 8 (some (cf m)) := of_eq_true (aoS a1)
      obtain ⟨τ1, t34, q1⟩ := T234 a1 hi (by omega) (by omega) a2 hC ⟨PX_F pm, PX_F hS⟩ (okX_of pm.1 pm.2.1 pm.2.2.1 pm.2.2.2) (okX_of hS.1 hS.2.1 hS.2.2.1 hS.2.2.2) pm.1.2.2.2.2.2.1 pm.2.2.1
      have s23 : RR (lkB tb37) (B37_7, [some (mR (some 39)), some (mI a), some (mR ((some m).map cf))], [], σ) = RR (lkB tb37) (B37_23, [some (mR (some 39)), some (mI a), some (mR (some (cf m)))], [mI (b2 (covS (kS (K m)) S = true))], τ1) := by
        show RR (lkB tb37) (B37_7, [some (mR (some 39)), some (mI a), some (mR (some (cf m)))], [], σ) = _
        rw [e37_7, if_neg (by show ¬ true = false; decide), if_pos ao8, h14, t34]
        rfl
      rw [s23]
      by_cases c : covS (kS (K m)) S = true
      · rw [if_pos (by rw [c, decide_eq_true e]; rfl), b2_yes c]
        refine okc_o (τ := τ1) ?_ q1
        rw [e37_23, if_neg (by decide)]
        rfl
      · have cf' : covS (kS (K m)) S = false := by simpa using c
        rw [if_neg (by rw [cf', decide_eq_true e]; decide), b2_no c]
        have ao8' : ao τ1 8 (some (cf m)) := of_eq_true (aoS (st_r q1.2.2 a1))
        have g8 : gR τ1 (cf m) 8 = (fnd (fun j => decide (kA (K j) = a)) f (m + 1)).map cf := by
          rw [gR_r q1.2.2, hF m hmN, e, show N - (m + 1) = f by omega]
        obtain ⟨τ2, t, q2⟩ := ih (m + 1) τ1 (by omega) (vc_KC q1 hK) (vc_KF q1 hF) ((gR_r q1.2.2).trans h14) (st_r q1.2.2 hi) (vc_CSt sc q1 hC)
        refine okc_o (τ := τ2) ?_ (vc_t q2 q1)
        rw [e37_23, if_pos rfl, if_pos ao8', Option.getD_some, g8]
        exact t
    · rw [if_neg (fun z => e (of_decide_eq_true z)), if_neg (fun z => by rw [decide_eq_false e] at z; exact Bool.noConfusion z)]
      exact ih (m + 1) σ (by omega) hK hF h14 hi hC
/-- findCovering -/
theorem T37 {a : Nat} {hc : Nat} (ha : a < 200) (sc : stC hc) (hP : ∀ k, k < N → PX (kS (K k)) E t) (hS : PX S E t) (hK : KC σ cf K N D) (hF : KF σ cf K N) (h60 : gR σ 60 a = (fnd (fun j => decide (kA (K j) = (a : Int))) N 0).map cf) (h14 : gR σ 39 14 = some hc) (hi : isSt σ hc) (hC : CSt σ hc S) :
    okc (MM 37 [mR (some 39), mI (a : Int)] σ) (some (mR (((List.range N).find? fun j => decide (kA (K j) = (a : Int)) && covS (kS (K j)) S).map cf))) (fun τ => vc τ σ) := by
  obtain ⟨τ, t, q⟩ := L37 (a := (a : Int)) sc hP hS N 0 σ (by omega) hK hF h14 hi hC
  refine okc_o (τ := τ) ?_ q
  have g : Option.isSome (some 60) = true ∧ ab σ 5 60 (a : Int) := by rw [g_60]; omega
  rw [M37, e37_0, if_pos g, Int.toNat_natCast, h60, fnd_0]
  exact t
end CFND
