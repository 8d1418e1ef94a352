/-! ===== calls that end well, whatever they leave in their own corners ===== -/
def okc (o : Option Rs) (v : Option MV) (P : MS → Prop) : Prop := ∃ τ, o = some (v, τ) ∧ P τ
theorem okc_s {v : Option MV} {τ : MS} {P : MS → Prop} (h : P τ) : okc (some (v, τ)) v P := ⟨τ, rfl, h⟩
theorem okc_b {o : Option Rs} {f : Rs → Option Rs} {v v' : Option MV} {P Q : MS → Prop} (h : okc o v Q) (k : ∀ τ, Q τ → okc (f (v, τ)) v' P) : okc (o.bind f) v' P := by
  obtain ⟨τ, e, q⟩ := h
  rw [e]
  exact k τ q
theorem okc_m {o : Option Rs} {v : Option MV} {P Q : MS → Prop} (h : okc o v Q) (k : ∀ τ, Q τ → P τ) : okc o v P := by
  obtain ⟨τ, e, q⟩ := h
  exact ⟨τ, e, k τ q⟩
theorem okc_o {o : Option Rs} {v : Option MV} {τ : MS} {P : MS → Prop} (h : o = some (v, τ)) (q : P τ) : okc o v P := ⟨τ, h, q⟩
theorem okc_i {c : Prop} {d : Decidable c} {a b : Option Rs} {v : Option MV} {P : MS → Prop} (h1 : c → okc a v P) (h2 : ¬ c → okc b v P) : okc (@ite _ c d a b) v P := by
  by_cases h : c
  · rw [if_pos h]; exact h1 h
  · rw [if_neg h]; exact h2 h
theorem okc_q {tg : Nat → List Ins} {B : List Ins} {ls ls' : List (Option MV)} {st : List MV} {σ : MS} {v : Option MV} {P : MS → Prop} (hq : lq ls ls') (h : okc (RR tg (B, ls, st, σ)) v P) : okc (RR tg (B, ls', st, σ)) v P := by
  obtain ⟨τ, e, q⟩ := h
  exact ⟨τ, RR_q e hq, q⟩
/-- the same but for the reference's corners: numbers that are reckoned with, a place's byte and frame -/
def sqc (τ σ : MS) : Prop := (∀ k s, (118 ≤ k → k ≤ 122 → s < 32656) → ¬ (k = 80 ∧ (s = 102 ∨ s = 103)) → gI τ k s = gI σ k s) ∧ (∀ k s, (112 ≤ k → k ≤ 117 → s < 32656) → gL τ k s = gL σ k s) ∧ τ.2.2 = σ.2.2
section SQ
variable {a b c τ σ : MS} {i k s : Nat} {v u : VL} {x y : Int} {z : B64} {S : ST}
theorem sqc_r (σ : MS) : sqc σ σ := ⟨fun _ _ _ _ => rfl, fun _ _ _ => rfl, rfl⟩
theorem sqc_s (h : sqc a b) : sqc b a := ⟨fun k s p q => (h.1 k s p q).symm, fun k s p => (h.2.1 k s p).symm, h.2.2.symm⟩
theorem sqc_t (h1 : sqc a b) (h2 : sqc b c) : sqc a c := ⟨fun k s p q => (h1.1 k s p q).trans (h2.1 k s p q), fun k s p => (h1.2.1 k s p).trans (h2.2.1 k s p), h1.2.2.trans h2.2.2⟩
theorem sqc_w (h : 32656 ≤ i) : sqc (wrV σ i v) σ := by
  refine ⟨fun k s p _ => ?_, fun k s p => ?_, rfl⟩
  · by_cases e : s = i
    · exact gI_wrV_o (fun q => by have := p q.1 q.2; omega)
    · exact gI_wrV_s e
  · by_cases e : s = i
    · exact gL_wrV_o (fun q => by have := p q.1 q.2; omega)
    · exact gL_wrV_s e
theorem sqc_wV (h : sqc τ σ) : sqc (wrV τ i v) (wrV σ i v) := by
  refine ⟨fun k s p q => ?_, fun k s p => ?_, h.2.2⟩
  · rw [gI_wrV, gI_wrV, h.1 k s p q]
  · rw [gL_wrV, gL_wrV, h.2.1 k s p]
theorem sqc_sI (h : sqc τ σ) : sqc (sI τ k s x) (sI σ k s x) := by
  refine ⟨fun k' s' p q => ?_, h.2.1, h.2.2⟩
  rw [gI_sI, gI_sI, h.1 k' s' p q]
theorem sqc_sL (h : sqc τ σ) : sqc (sL τ k s z) (sL σ k s z) := by
  refine ⟨h.1, fun k' s' p => ?_, h.2.2⟩
  rw [gL_sL, gL_sL, h.2.1 k' s' p]
theorem sqc_I (h : sqc τ σ) (p : 118 ≤ k → k ≤ 122 → s < 32656) (q : ¬ (k = 80 ∧ (s = 102 ∨ s = 103))) : gI τ k s = gI σ k s := h.1 k s p q
theorem sqc_L (h : sqc τ σ) (p : 112 ≤ k → k ≤ 117 → s < 32656) : gL τ k s = gL σ k s := h.2.1 k s p
theorem sqc_flt (h : sqc τ σ) : sqc (flt τ x) (flt σ x) := by
  unfold flt
  rw [sqc_I h (by omega) (by omega)]
  exact sqc_sI h
theorem sqc_V (h : sqc τ σ) (hi : i < 32656) : aV τ i = aV σ i := by
  unfold aV rNv
  rw [sqc_I h (by omega) (by omega), sqc_I h (by omega) (by omega), sqc_I h (by omega) (by omega), sqc_I h (by omega) (by omega), sqc_I h (by omega) (by omega), sqc_L h (by omega), sqc_L h (by omega), sqc_L h (by omega), sqc_L h (by omega), sqc_L h (by omega), sqc_L h (by omega)]
theorem sqc_pb : sqc (sI (sI σ 80 103 x) 80 102 y) σ := by
  refine ⟨fun k s _ q => ?_, fun _ _ _ => rfl, rfl⟩
  rw [gI_sI, if_neg (by omega), gI_sI, if_neg (by omega)]
theorem sqc_k (h : sqc τ σ) : kd τ k = kd σ k := by
  unfold kd
  rw [h.2.2]
theorem wrV_wrV (h : ¬ s = i) : wrV (wrV σ i v) s u = wrV (wrV σ s u) i v := wrV_comm h
/-- a fault that stands -/
theorem fl_g : gI (flt σ x) 80 90 = fst (gI σ 80 90) x := by
  unfold flt
  rw [gI_sI, if_pos ⟨rfl, rfl⟩]
theorem fl_o (h : ¬ (k = 80 ∧ s = 90)) : gI (flt σ x) k s = gI σ k s := by
  unfold flt
  rw [gI_sI, if_neg h]
theorem fl_L : gL (flt σ x) k s = gL σ k s := rfl
theorem fst0 : fst 0 x = x := if_pos rfl
theorem fst_r0 : fst x 0 = x := by
  unfold fst
  split
  · rename_i h; exact h.symm
  · rfl
theorem gW (h : ¬ (118 ≤ k ∧ k ≤ 122)) : gI (wrV σ i v) k s = gI σ k s := gI_wrV_o h
theorem gW80 : gI (wrV σ i v) 80 s = gI σ 80 s := gI_wrV_o (by omega)
/-- a state of the judge, in the rows of the reference -/
def JSt (σ : MS) (i : Nat) (S : ST) : Prop := gI σ 123 i = (sF S : Int) ∧ (∀ k, k < 26 * sF S → aV σ (104 * i + k) = sV S k) ∧ (∀ f, 1 ≤ f → f < sF S → gI σ 124 (4 * i + f) = sB S f) ∧ gI σ 125 i = ((sH S).length : Int) ∧ ∀ j, j < (sH S).length → gI σ 126 (64 * i + j) = (sH S).getD j 0
abbrev J0 (σ : MS) (S : ST) : Prop := JSt σ 0 S
theorem J0_v (h : J0 σ S) (hk : k < 26 * sF S) : aV σ k = sV S k := by
  have := h.2.1 k hk
  rwa [show 104 * 0 + k = k by omega] at this
theorem JSt_sq (h : sqc τ σ) (hi : i < 314) (hF : sF S ≤ 4) (j : JSt σ i S) : JSt τ i S := by
  obtain ⟨j1, j2, j3, j4, j5⟩ := j
  refine ⟨(sqc_I h (by omega) (by omega)).trans j1, fun k hk => (sqc_V h (by omega)).trans (j2 k hk), fun f f1 f2 => (sqc_I h (by omega) (by omega)).trans (j3 f f1 f2), (sqc_I h (by omega) (by omega)).trans j4, fun j hj => (sqc_I h (by omega) (by omega)).trans (j5 j hj)⟩
theorem JSt_sI (hk : ¬ (118 ≤ k ∧ k ≤ 126)) (j : JSt σ i S) : JSt (sI σ k s x) i S := by
  obtain ⟨j1, j2, j3, j4, j5⟩ := j
  refine ⟨?_, fun k hk => ?_, fun f f1 f2 => ?_, ?_, fun j hj => ?_⟩
  · rw [gI_sI, if_neg (by omega)]; exact j1
  · rw [aV_sI (by omega)]; exact j2 k hk
  · rw [gI_sI, if_neg (by omega)]; exact j3 f f1 f2
  · rw [gI_sI, if_neg (by omega)]; exact j4
  · rw [gI_sI, if_neg (by omega)]; exact j5 j hj
theorem JSt_flt (j : JSt σ i S) : JSt (flt σ x) i S := JSt_sI (by omega) j
theorem J0_wV (hF : sF S ≤ 4) (j : J0 σ S) : J0 (wrV σ k v) (sF S, upV (sV S) k v, sB S, sH S) := by
  obtain ⟨j1, j2, j3, j4, j5⟩ := j
  refine ⟨?_, fun m hm => ?_, fun f f1 f2 => ?_, ?_, fun j hj => ?_⟩
  · rw [gW (by omega)]; exact j1
  · show aV (wrV σ k v) (104 * 0 + m) = (if m = k then v else sV S m)
    rw [show 104 * 0 + m = m by omega, aV_wrV]
    split
    · rfl
    · have := j2 m hm
      rwa [show 104 * 0 + m = m by omega] at this
  · rw [gW (by omega)]; exact j3 f f1 f2
  · rw [gW (by omega)]; exact j4
  · rw [gW (by omega)]; exact j5 j hj
/-- the register that is asked for -/
theorem plc_9 (h1 : gI σ 123 0 = (sF S : Int)) (hF : 1 ≤ sF S) {r : Int} (h0 : 0 ≤ r) (hr : r ≤ 9) : plc (gI σ 123 0) r = 26 * (sF S - 1) + r.toNat := by
  unfold plc
  rw [if_neg (by omega), h1]
  omega
theorem plc_10 {F : Int} : plc F 10 = 32663 := if_pos rfl
theorem mkr_9 {r : Int} (hr : r ≤ 9) : mk10 σ r = σ := if_neg (by omega)
theorem mkr_10 : mk10 σ 10 = wrV σ 32663 (mkV 3 (gI σ 123 0 - 1) 0) := if_pos rfl
theorem mk_sq {r : Int} : sqc (mk10 σ r) σ := by
  unfold mk10
  split
  · exact sqc_w (by omega)
  · exact sqc_r _
theorem mk_I {r : Int} (h : ¬ (118 ≤ k ∧ k ≤ 122)) : gI (mk10 σ r) k s = gI σ k s := by
  unfold mk10
  split
  · exact gW h
  · rfl
theorem mk_V {r : Int} : aV (mk10 σ r) i = if r = 10 ∧ i = 32663 then mkV 3 (gI σ 123 0 - 1) 0 else aV σ i := by
  unfold mk10
  by_cases c : r = 10
  · rw [if_pos c, aV_wrV]
    by_cases e : i = 32663
    · rw [if_pos e, if_pos ⟨c, e⟩]
    · rw [if_neg e, if_neg (fun q => e q.2)]
  · rw [if_neg c, if_neg (fun q => c q.1)]
theorem plc_b (h1 : gI σ 123 0 = (sF S : Int)) (hF : 1 ≤ sF S ∧ sF S ≤ 4) {r : Int} (hr : 0 ≤ r ∧ r ≤ 10) : inB (plc (gI σ 123 0) r : Nat) := by
  by_cases c : r = 10
  · subst c
    rw [plc_10]
    exact ⟨by decide, by decide⟩
  · rw [plc_9 h1 hF.1 hr.1 (by omega)]
    exact ⟨by omega, by omega⟩
theorem at_v (hJ : J0 σ S) (hF : 1 ≤ sF S ∧ sF S ≤ 4) {r : Int} (hr : 0 ≤ r ∧ r ≤ 10) : aV (mk10 σ r) (plc (gI σ 123 0) r) = rgV S r.toNat := by
  unfold rgV
  by_cases c : r = 10
  · subst c
    rw [plc_10, mk_V, if_pos ⟨rfl, rfl⟩, hJ.1]
    rfl
  · rw [mkr_9 (by omega), plc_9 hJ.1 hF.1 hr.1 (by omega), J0_v hJ (by omega), if_neg (by omega)]
/-- another register's value stays -/
theorem at_w (hJ : J0 σ S) (hF : 1 ≤ sF S ∧ sF S ≤ 4) {r q : Int} (hr : 0 ≤ r ∧ r ≤ 10) : aV (mk10 (mk10 σ r) q) (plc (gI σ 123 0) r) = rgV S r.toNat := by
  rw [mk_V]
  split
  · rename_i c
    rw [← at_v hJ hF hr, c.2]
    have : r = 10 := by
      refine Classical.byContradiction fun e => ?_
      have := plc_9 hJ.1 hF.1 hr.1 (show r ≤ 9 by omega)
      omega
    subst this
    rw [mk_V, if_pos ⟨rfl, rfl⟩, mk_I (by omega)]
  · exact at_v hJ hF hr
end SQ
