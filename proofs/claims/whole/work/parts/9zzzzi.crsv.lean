/-! ===== the class's reader: links are led ===== -/
section CRS
variable {t : Nat → Int} {n i j k m l M : Nat} {σ τ ρ υ : MS} {c d e o w x y z a r op f im : Int} {v Y : B64} {s s' : RD} {W : Nat → B64}
theorem lbV_1 {o : Option Nat} {s2 : RD} (h : s2.1 = s.1) : lbV s2 o = lbV s o := by
  cases o with
  | none => rfl
  | some l =>
    show ((s2.1.2 l).2 : Int) = ((s.1.2 l).2 : Int)
    rw [h]
/-- resolve -/
theorem T154 (h : cG σ t n m k) (hr : cRD m σ s) (lc : lkC s) (lm : lkM s) (hL : s.1.1 < 1999) (hM : s.2.2.1.1 ≤ 200) (hN : s.2.1.1 ≤ 200) : okc (MM 154 [mR (some 18)] σ) none (fun τ => oR (pPlc t (tks t n) s s.2.1.1 0 s.2.2.1.2) (fun e => cfa τ σ ∧ gI τ 18 9 = e ∧ 0 ≤ e) (fun W => cfa τ σ ∧ gI τ 18 9 = -1 ∧ gI τ 18 1 = (s.2.2.1.1 : Int) ∧ ∀ i, i < s.2.2.1.1 → gL τ 19 i = W i)) := by
  obtain ⟨hl, ⟨r3, r4⟩, r1, r2⟩ := hr
  have key : ∀ (f u : Nat) (W : Nat → B64) (τ : MS), u + f = s.2.1.1 → (∀ k s', gI τ k s' = gI σ k s') → (∀ k s', ¬ k = 19 → gL τ k s' = gL σ k s') → τ.2.2 = σ.2.2 → (∀ i, i < s.2.2.1.1 → gL τ 19 i = W i) → (∀ v, u ≤ v → v < s.2.1.1 → gdW (s.2.1.2 v).2.2 (W (s.2.1.2 v).2.1)) → okc (RR (lkB tb154) (B154_2, [some (mR (some 18)), some (mI (u : Int)), none, none], [], τ)) none (fun τ => oR (pPlc t (tks t n) s f u W) (fun e => cfa τ σ ∧ gI τ 18 9 = e ∧ 0 ≤ e) (fun W => cfa τ σ ∧ gI τ 18 9 = -1 ∧ gI τ 18 1 = (s.2.2.1.1 : Int) ∧ ∀ i, i < s.2.2.1.1 → gL τ 19 i = W i)) := by
    intro f
    induction f with
    | zero =>
      intro u W τ hu fi fl fr hw hg
      rw [e154_2, fi, r3, if_pos (show (s.2.1.1 : Int) ≤ (u : Int) by omega)]
      exact okc_s ⟨⟨fun k s' _ _ _ => fi k s', fun k s' _ a => fl k s' a, fr⟩, (fi _ _).trans h.2.2.2, (fi _ _).trans r1, hw⟩
    | succ f ih =>
      intro u W τ hu fi fl fr hw hg
      have u1 : u < s.2.1.1 := by omega
      obtain ⟨q1, q2, q3⟩ := r4 u u1
      have cf : cfa τ σ := ⟨fun k s' _ _ _ => fi k s', fun k s' _ a => fl k s' a, fr⟩
      have g : cG τ t n m k := cG_f h cf ((fi _ _).trans h.2.1) h.2.2.1 ((fi _ _).trans h.2.2.2)
      have hr2 : cRD m τ (s.1, s.2.1, (s.2.2.1.1, W), s.2.2.2) := by
        refine ⟨⟨(fi _ _).trans hl.1, fun l hh => ?_⟩, ⟨(fi _ _).trans r3, fun u hh => ?_⟩, (fi _ _).trans r1, hw⟩
        · rw [fi, fi]
          exact hl.2 l hh
        · rw [fi, fi]
          exact r4 u hh
      have U1 : 2 * u < 400 := by omega
      have U2 : 2 * u + 1 < 400 := by omega
      have U3 : u < 100000 := by omega
      have U4 : 2 * u < 100000 := by omega
      obtain ⟨x, hx⟩ : ∃ x, x = (s.2.1.2 u).2.2 := ⟨_, rfl⟩
      obtain ⟨I, hI⟩ : ∃ I, I = (s.2.1.2 u).2.1 := ⟨_, rfl⟩
      obtain ⟨J, hJ⟩ : ∃ J, J = (s.2.1.2 u).1 := ⟨_, rfl⟩
      have Im : I < s.2.2.1.1 := by rw [hI]; exact lm u u1
      obtain ⟨g1, g2, g3⟩ := hg u (Nat.le_refl _) u1
      rw [← hx, ← hI] at g1 g2 g3
      rw [← hJ] at q1 q3
      rw [← hI] at q2
      have J1 : J < 4001 := by
        have := h.1.2.2.1
        omega
      have t51 := T151 g hr2 q3 hL
      rw [lbV_1 (s := s) (s2 := (s.1, s.2.1, (s.2.2.1.1, W), s.2.2.2)) rfl, show labX t (tks t n) (s.1, s.2.1, (s.2.2.1.1, W), s.2.2.2) J = labX t (tks t n) s J from rfl] at t51
      rw [e154_2, fi, r3, if_neg (show ¬ (s.2.1.1 : Int) ≤ (u : Int) by omega), w32_2 U3, w32_s1 U4, if_pos (g25' U2), if_pos (g25' U1), Int.toNat_natCast, Int.toNat_natCast, fi, fi, q1, q2, t51]
      simp only [Option.bind_some, Option.toList_some, Option.toList_none, List.cons_append, List.nil_append]
      have eP : pPlc t (tks t n) s (f + 1) u W = (match labX t (tks t n) s (s.2.1.2 u).1 with
        | none => .inl (tB (tks t n (s.2.1.2 u).1) : Int)
        | some l => pPlc t (tks t n) s f (u + 1) (fun i => if i = (s.2.1.2 u).2.1 then lkW (s.2.1.2 u).2.2 (W i) (lkB' s u l) else W i)) := rfl
      rw [← hJ] at eP
      rw [e154_33]
      cases hlx : labX t (tks t n) s J with
      | none =>
        rw [hlx] at eP
        have eP : pPlc t (tks t n) s (f + 1) u W = .inl (tB (tks t n J) : Int) := eP
        obtain ⟨b1, b2', -⟩ := cG_tk g q3
        rw [eP, if_neg (show ¬ ¬ lbV s none = -1 from fun z => z rfl), w32_2 U3, if_pos (g25' U1), Int.toNat_natCast, fi, q1, if_pos (g21' J1), Int.toNat_natCast, b2']
        exact okc_s ⟨cfa_t (cfa_c (ccq_I (by omega))) cf, c9, by omega⟩
      | some l =>
        rw [hlx] at eP
        have eP : pPlc t (tks t n) s (f + 1) u W = pPlc t (tks t n) s f (u + 1) (fun i => if i = (s.2.1.2 u).2.1 then lkW (s.2.1.2 u).2.2 (W i) (lkB' s u l) else W i) := eP
        rw [← hx, ← hI] at eP
        have nl : ¬ lbV s (some l) = -1 := by
          show ¬ ((s.1.2 l).2 : Int) = -1
          omega
        rw [eP, if_pos nl, if_pos (g19' (show I < 200 by omega)), if_pos (g19' (show I < 200 by omega)), Int.toNat_natCast, hw I Im, T0]
        simp only [Option.bind_some, Option.toList_some, Option.toList_none, List.cons_append, List.nil_append]
        rw [e154_73, T155, g1]
        simp only [Option.bind_some, Option.toList_some, Option.toList_none, List.cons_append, List.nil_append]
        have eB : w32 (w32 (lbV s (some l) - (I : Int)) - 1) = lkB' s u l := by
          rw [hI]
          rfl
        rw [e154_82, show Option.getD (some 19) 0 = 19 from rfl, if_pos (g19' (show I < 200 by omega)), eB, Int.toNat_natCast, w32_s1 U3]
        have eW : W I ||| (if x = 0 then lShl (iL (lkB' s u l) &&& iL 65535) 16 else lShl (iL (lkB' s u l)) 32) = lkW x (W I) (lkB' s u l) := by
          unfold lkW
          by_cases x0 : x = 0
          · rw [if_pos x0, if_pos x0, g2 x0]
          · rw [if_neg x0, if_neg x0, g3 x0]
        have eW : ∀ X : B64, X = (if x = 0 then lShl (iL (lkB' s u l) &&& iL 65535) 16 else lShl (iL (lkB' s u l)) 32) → W I ||| X = lkW x (W I) (lkB' s u l) := fun X e => by rw [e, eW]
        rw [eW _ rfl]
        refine okc_q (by repeat (first | exact lq_nil | refine lq_cons (Or.inr rfl) ?_ | refine lq_cons (Or.inl rfl) ?_)) (ih (u + 1) (fun i => if i = I then lkW x (W i) (lkB' s u l) else W i) (sL τ 19 I (lkW x (W I) (lkB' s u l))) (by omega) (fun k s' => fi k s') (fun k s' a => by rw [gL_sL, if_neg (show ¬ (k = 19 ∧ s' = I) from fun z => a z.1), fl k s' a]) fr (fun i hi => ?_) (fun v hv hv2 => ?_))
        · show gL (sL τ 19 I (lkW x (W I) (lkB' s u l))) 19 i = if i = I then lkW x (W i) (lkB' s u l) else W i
          by_cases ci : i = I
          · rw [if_pos ci, gL_sL, if_pos ⟨rfl, ci⟩, ci]
          · rw [if_neg ci, gL_sL, if_neg (show ¬ (19 = 19 ∧ i = I) from fun z => ci z.2), hw i hi]
        · have ne : ¬ (s.2.1.2 v).2.1 = I := by
            have := lc.2 u v (by omega) hv2
            omega
          show gdW (s.2.1.2 v).2.2 (if (s.2.1.2 v).2.1 = I then lkW x (W (s.2.1.2 v).2.1) (lkB' s u l) else W (s.2.1.2 v).2.1)
          rw [if_neg ne]
          exact hg v (by omega) hv2
  rw [M154, e154_0]
  exact key s.2.1.1 0 s.2.2.1.2 σ (by omega) (fun _ _ => rfl) (fun _ _ _ => rfl) rfl r2 (fun v _ hv => lc.1 v hv)
end CRS
