/-! ===== every run of a program that was taken ends ===== -/
/-- slots that programs lead to -/
def sl8 (w : WR) : Prop := (0 ≤ wg w 80 110 ∧ wg w 80 110 ≤ 8) ∧ ∀ s, wg w 106 s < 8
section ENDS
variable {E : EV} {W V : WR} {m : Nat} {x : B64}
theorem tai_s (h : sl8 W) (e : taiR W m x = some V) : (8 - wg V 80 110).toNat + 1 = (8 - wg W 80 110).toNat ∧ sl8 V ∧ ((0 ≤ sloW V ∧ sloW V < 8) ∧ ¬ wg V 85 (sloW V).toNat = 0) ∧ ∀ s, wg V 85 s = wg W 85 s := by
  unfold taiR at e
  by_cases c1 : ¬ (x.toNat : Int) < wg W 99 m
  · rw [if_pos c1] at e
    cases e
  · rw [if_neg c1] at e
    by_cases c2 : wg W 106 (16 * m + x.toNat) < 0 ∨ wg W 85 (wg W 106 (16 * m + x.toNat)).toNat = 0 ∨ wg W 80 110 = 8
    · rw [if_pos c2] at e
      cases e
    · rw [if_neg c2] at e
      have e := Option.some.inj e
      obtain ⟨⟨h0, h8⟩, h6⟩ := h
      have h6' := h6 (16 * m + x.toNat)
      have g : ∀ k s, wg V k s = if k = 80 ∧ s = 122 then wg W 106 (16 * m + x.toNat) else if k = 80 ∧ s = 110 then wg W 80 110 + 1 else wg W k s := fun k s => by
        rw [← e, wg_wset, wg_wset]
      have g110 : wg V 80 110 = wg W 80 110 + 1 := by rw [g, if_neg (by omega), if_pos ⟨rfl, rfl⟩]
      have gsl : sloW V = wg W 106 (16 * m + x.toNat) := by
        show wg V 80 122 = _
        rw [g, if_pos ⟨rfl, rfl⟩]
      have g85 : ∀ s, wg V 85 s = wg W 85 s := fun s => by rw [g, if_neg (by omega), if_neg (by omega)]
      refine ⟨by omega, ⟨by omega, fun s => ?_⟩, ⟨by omega, ?_⟩, g85⟩
      · rw [g, if_neg (by omega), if_neg (by omega)]
        exact h6 s
      · rw [g85, gsl]
        omega
theorem sl8_k (h : sl8 W) (k : kpc W V) : sl8 V := by
  obtain ⟨h1, h2⟩ := h
  refine ⟨by rw [k.2 80 110 (by omega)]; exact h1, fun s => by rw [k.2 106 s (by omega)]; exact h2 s⟩
/-- what a run never changes, steps apart -/
def kpd (w v : WR) : Prop := ∀ k s, cst k s → wg v k s = wg w k s
theorem kpd_all : keepR RB RH kpd := by
  obtain ⟨a1, a2, a3, a4, a5, a6, a7, a8, a9, a10, a11⟩ := kpc_all
  exact ⟨fun w k s _ => rfl, fun a b c h1 h2 k s z => (h2 k s z).trans (h1 k s z), fun w o b v => (a3 w o b v).2, fun w x => (a4 w x).2, fun w m k v f => (a5 w m k v f).2, fun w m k => (a6 w m k).2, fun w l => (a7 w l).2, fun w => (a8 w).2, fun w x => (a9 w x).2, fun w m n => (a10 w m n).2, fun w i b => (a11 w i b).2⟩
theorem run_ends {pr : Int → Int → B64} {W0 : WR} {s0 : Int} (hE : okE E) (h8 : sl8 W) (e85 : ∀ s, wg W 85 s = wg W0 85 s) (hs : (0 ≤ s0 ∧ s0 < 8) ∧ ¬ wg W0 85 s0.toNat = 0) (hh : ∀ i, i < 64 → RB.2.2.2.1 W i = false)
    (h3 : ∀ s : Int, (0 ≤ s ∧ s < 8) ∧ ¬ wg W0 85 s.toNat = 0 → ∃ (G : Int → Prop) (J : Int → Bool) (n : Nat) (w' : WK), okP G (pr s) ∧ G 0 ∧ wlkK E (pr s) J n true (begK S0J) = some (0, w')) : ∃ r, rnT RB RH E RT pr sloW 36000 s0 (st0 W) = some r := by
  have h1 : ∀ w v : WR, kpd w v → (8 - wg v 80 110).toNat = (8 - wg w 80 110).toNat ∧ ((sl8 w ∧ ∀ s, wg w 85 s = wg W0 85 s) → (sl8 v ∧ ∀ s, wg v 85 s = wg W0 85 s)) := fun w v k => by
    have k110 : wg v 80 110 = wg w 80 110 := k 80 110 (by omega)
    refine ⟨by rw [k110], fun h => ⟨⟨by rw [k110]; exact h.1.1, fun s => by rw [k 106 s (by omega)]; exact h.1.2 s⟩, fun s => by rw [k 85 s (by omega)]; exact h.2 s⟩⟩
  have h2 : ∀ (w : WR) (m : Int) (x : B64) (v : WR), (sl8 w ∧ ∀ s, wg w 85 s = wg W0 85 s) → RH.2.2.2.2.2.2.2.2.1 w m x = some v → (8 - wg v 80 110).toNat + 1 = (8 - wg w 80 110).toNat ∧ (sl8 v ∧ ∀ s, wg v 85 s = wg W0 85 s) ∧ ((0 ≤ sloW v ∧ sloW v < 8) ∧ ¬ wg W0 85 (sloW v).toNat = 0) := fun w m x v h e => by
    have e : taiR w m.toNat x = some v := e
    obtain ⟨a1, a2, a3, a4⟩ := tai_s h.1 e
    refine ⟨a1, ⟨a2, fun s => (a4 s).trans (h.2 s)⟩, a3.1, ?_⟩
    rw [← h.2, ← a4]
    exact a3.2
  exact rn_ends (R := kpd) (rem := fun w => (8 - wg w 80 110).toNat) (I := fun w => sl8 w ∧ ∀ s, wg w 85 s = wg W0 85 s) (good := fun s => (0 ≤ s ∧ s < 8) ∧ ¬ wg W0 85 s.toNat = 0) RB_ok RH_ok hE RT_ok kpd_all (fun w k s _ => rfl) h1 h2 h3 8 W s0 (by show (8 - wg W 80 110).toNat ≤ 8; have := h8.1; omega) ⟨h8, e85⟩ hs hh
end ENDS
